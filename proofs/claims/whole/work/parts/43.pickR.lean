/-! the reference's picked, replaced -/
section MZ
variable {dA : Nat → ClassId} {b : Nat → Nat} {w : ww_W} {S S' : mm} {d : Nat} {Q : zQ} {P : aP} {mk B n q : Nat} {res : rP} {F : List fF} {x : Option aV} {s : aS} {y : Int32}
theorem OV_tr {v : aV} (h1 : kpA S S') (h2 : kpI S S') (h : OV dA b w P mk B res S F x s v Q) : OV dA b w P mk B res S' F x s v Q := fun S2 y g1 g2 g3 g4 => h S2 y g1 g2 (kpA_tr h1 g3) (kpI_tr h2 g4)
theorem RT_tr {a : Nat} {u : aV} (h1 : kpA S S') (h2 : kpI S S') (h : RT P mk B res S F x s a u) : RT P mk B res S' F x s a u := ⟨h.1, fun S2 q g1 g3 g4 => h.2 S2 q g1 (kpA_tr h1 g3) (kpI_tr h2 g4)⟩
theorem jT_kpA {T : Nat → Int32} : kpA S (jT S T) := fun k _ _ a3 => va_up_ne _ _ a3
theorem i1 : (1 : Int32).toInt = 1 := by decide
theorem okP_nI2 {p : Int32} (h : okP p) (hn : ¬ p = pNA) : ∃ j : Nat, j < 1000000000 ∧ p = nI j := by
  obtain ⟨h1, h2⟩ := h.resolve_left hn
  exact ⟨p.toInt.toNat, by omega, Int32.toInt_inj.mp (by rw [nI_toInt (by omega)]; omega)⟩
theorem tl_big {j : Nat} (hj : j < 1000000000) : tl (nI j) = nI (min (j + 1) 1000) := by
  unfold tl
  rw [if_neg (fun q => nI_pos (n := j) (by omega) (by rw [q]; decide))]
  by_cases h : 1000 ≤ j
  · rw [if_pos (show (1000 : Int32) ≤ nI j from (show nI 1000 ≤ nI j from nI_le h (by omega))), show min (j + 1) 1000 = 1000 by omega]
    rfl
  · rw [if_neg (show ¬ (1000 : Int32) ≤ nI j from (show ¬ nI 1000 ≤ nI j from nI_ge (by omega) (by omega))), nI_1, show min (j + 1) 1000 = j + 1 by omega]
theorem tl_cases {p : Int32} {m : Nat} (f : Nat → Int32) (hp : okP p) (hm : m ≤ 16) : (tl p = 0 ∧ p_el m f p = pNA) ∨ (∃ j : Nat, j < m ∧ tl p = nI (j + 1) ∧ p_el m f p = f j) ∨ (¬ tl p = 0 ∧ ¬ tl p ≤ nI m ∧ p_el m f p = pNA) := by
  by_cases hn : p = pNA
  · left
    subst hn
    exact ⟨rfl, by unfold p_el; rw [if_pos (by decide)]⟩
  · obtain ⟨j, hj, rfl⟩ := okP_nI2 hp hn
    right
    have h0 := nI_pos (n := j) (by omega)
    by_cases h : j < m
    · left
      refine ⟨j, h, by rw [tl_big hj, show min (j + 1) 1000 = j + 1 by omega], ?_⟩
      unfold p_el
      rw [if_neg h0, if_neg (nI_ge h (by omega)), nI_clamp (by omega)]
    · right
      rw [tl_big hj]
      refine ⟨nI_ne0 (by omega) (by omega), nI_ge (by omega) (by omega), ?_⟩
      unfold p_el
      rw [if_neg h0, if_pos (nI_le (by omega) (by omega))]
theorem r_picked_loop (hb : mB b) (hd : 1 ≤ d) {a c : Nat} {xs l : List Int32} (hA : RT P mk B res S F x s a (.inl xs)) (hl : l.length ≤ 16) (hT : tR (S.2.2.2 32) l)
    (hQ : OV dA b w P mk B res S F x s (.inl (vg l.length (fun j => p_el xs.length (p_at xs) (p_at l j)))) Q) : ∀ (r i : Nat) (S' : mm), i + r = l.length → BS P mk B res S F x s q l.length i (fun j => p_el xs.length (p_at xs) (p_at l j)) S' →
    zx dA d 0 0 M_VectorLanguageModel_picked 28 [some (.ref (b 0)), some (.int (nI a)), some (.int (nI c)), some (.int (nI l.length)), some (.int (nI q)), some (.int (nI i))] [] (mw dA b w S') 0 0 Q := by
  intro r
  have ha := hA.1
  induction r with
  | zero =>
    intro i S' hi h
    obtain ⟨x1, x2, x3, x4⟩ := VR_inl hA.1 (BS_rt h hA)
    refine z_i rfl rfl ?_
    refine z_i rfl rfl ?_
    refine z_bt rfl rfl (nI_le (by omega) (by omega)) ?_
    refine z_i rfl rfl ?_
    refine z_retI rfl (Nat.zero_le _) (Nat.zero_le _) ?_
    have hi' : i = l.length := by omega
    rw [hi'] at h
    exact BS_end h hl (fun j hj => okI_el (by have := x2.1; omega) x2.2) hQ
  | succ r ih =>
    intro i S' hi h
    obtain ⟨x1, x2, x3, x4⟩ := VR_inl hA.1 (BS_rt h hA)
    have hx16 := x2.1
    have hq := h.2.1
    have hset : ∀ e : Int32, e = p_el xs.length (p_at xs) (p_at l i) → zx dA d 0 0 M_VectorLanguageModel_picked 84 [some (.ref (b 0)), some (.int (nI a)), some (.int (nI c)), some (.int (nI l.length)), some (.int (nI q)), some (.int (nI i))] [.int e, .int (nI i), .int (nI q), .ref (b 0)] (mw dA b w S') 0 0 Q := by
      intro e he
      refine z_cVk [.int (nI q), .int (nI i), .int e] [] 0 0 0 rfl (m_obj hb) rfl rfl (Nat.le_of_ble_eq_true rfl) (Nat.le_of_ble_eq_true rfl) (by omega) (by omega) (by omega) (r_set hb hq (by omega) ⟨_, rfl, ?_⟩)
      refine z_i rfl rfl ?_
      refine z_j rfl ?_
      have := ih (i + 1) _ (by omega) (BS_next h (by omega) he)
      rw [← nI_1] at this
      exact this
    have ht : S'.2.2.2 32 i = tl (p_at l i) := by rw [h.2.2.2.2.2.1 32 (by decide) (by decide)]; exact (hT i (by omega)).1
    have hcs := tl_cases (p_at xs) (hT i (by omega)).2 hx16
    refine z_i rfl rfl ?_
    refine z_i rfl rfl ?_
    refine z_bf rfl rfl (nI_ge (by omega) (by omega)) ?_
    repeat first | refine z_i rfl rfl ?_ | refine m_gt hb rfl rfl ?_
    refine m_ldv hb (j := i) rfl rfl rfl (show i < 16 by omega) ht ?_
    rcases hcs with ⟨g1, g2⟩ | ⟨j, g1, g2, g3⟩ | ⟨g1, g2, g3⟩
    · refine z_bt rfl rfl g1 ?_
      refine z_i rfl rfl ?_
      refine z_j rfl ?_
      exact hset _ g2.symm
    · refine z_bf rfl rfl (show ¬ tl (p_at l i) = 0 by rw [g2]; exact nI_ne0 (by omega) (by omega)) ?_
      repeat first | refine z_i rfl rfl ?_ | refine m_gt hb rfl rfl ?_
      refine m_ldv hb (j := i) rfl rfl rfl (show i < 16 by omega) ht ?_
      repeat first | refine z_i rfl rfl ?_ | refine m_gt hb rfl rfl ?_
      refine m_ldv hb (j := a) rfl rfl rfl ha x1 ?_
      refine z_bt rfl rfl (show tl (p_at l i) ≤ nI xs.length by rw [g2]; exact nI_le (by omega) (by omega)) ?_
      repeat first | refine z_i rfl rfl ?_ | refine m_gt hb rfl rfl ?_
      refine m_ldv hb (j := i) rfl rfl rfl (show i < 16 by omega) ht ?_
      refine z_i rfl rfl ?_
      refine z_i rfl rfl ?_
      dsimp only
      rw [g2, nI_pred]
      refine z_cVk [.int (nI a), .int (nI j)] [.int (nI i), .int (nI q), .ref (b 0)] 0 0 0 rfl (m_obj hb) rfl rfl (Nat.le_of_ble_eq_true rfl) (Nat.le_of_ble_eq_true rfl) (by omega) (by omega) (by omega) (r_atv hb (x3 _ g1) ha (by omega) _ ⟨_, rfl, ?_⟩)
      exact hset _ g3.symm
    · refine z_bf rfl rfl g1 ?_
      repeat first | refine z_i rfl rfl ?_ | refine m_gt hb rfl rfl ?_
      refine m_ldv hb (j := i) rfl rfl rfl (show i < 16 by omega) ht ?_
      repeat first | refine z_i rfl rfl ?_ | refine m_gt hb rfl rfl ?_
      refine m_ldv hb (j := a) rfl rfl rfl ha x1 ?_
      refine z_bf rfl rfl g2 ?_
      refine z_i rfl rfl ?_
      refine z_j rfl ?_
      exact hset _ g3.symm
theorem r_picked (hb : mB b) (hd : 3 ≤ d) {a c : Nat} {xs ys : List Int32} (h : MR P mk B res 1000 S F x s) (hA : RT P mk B res S F x s a (.inl xs)) (hC : RT P mk B res S F x s c (.inl ys))
    (hQ : OU dA b w P mk B res S F x s Q (e_pick xs ys)) : zx dA d 0 0 M_VectorLanguageModel_picked 0 (zargs 6 [.ref (b 0), .int (nI a), .int (nI c)]) [] (mw dA b w S) 0 0 Q := by
  have ha := hA.1
  have hc := hC.1
  obtain ⟨x1, x2, x3, x4⟩ := VR_inl hA.1 (RT_0 h hA)
  obtain ⟨y1, y2, y3, y4⟩ := VR_inl hC.1 (RT_0 h hC)
  have hx16 := x2.1
  unfold e_pick at hQ
  repeat first | refine z_i rfl rfl ?_ | refine m_gt hb rfl rfl ?_
  refine m_ldv hb (j := a) rfl rfl rfl ha x1 ?_
  refine z_cVk [.int (nI c), .int (nI xs.length)] [] 2 0 0 rfl (m_obj hb) rfl rfl (Nat.le_of_ble_eq_true rfl) (Nat.le_of_ble_eq_true rfl) (by omega) (by omega) (by omega) (r_indexes hb (by omega) hc y1 y2 y3 hx16 (fun hf => ⟨_, rfl, ?_⟩) (fun l T hf hl hT => ⟨_, rfl, ?_⟩))
  · rw [hf] at hQ
    repeat first | refine z_i rfl rfl ?_ | refine m_gt hb rfl rfl ?_
    refine z_bf rfl rfl (show ¬ (0 : Int32) < -1 by decide) ?_
    repeat first | refine z_i rfl rfl ?_ | refine m_gt hb rfl rfl ?_
    exact z_retI rfl (Nat.zero_le _) (Nat.zero_le _) (hQ _ (MR_err h 8))
  · rw [hf] at hQ
    replace hQ : OV dA b w P mk B res (jT S T) F x s (.inl (vg l.length (fun j => p_el xs.length (p_at xs) (p_at l j)))) Q := OV_tr jT_kpA kpI_refl hQ
    have h' := MR_jT (T := T) h
    repeat first | refine z_i rfl rfl ?_ | refine m_gt hb rfl rfl ?_
    refine z_b rfl rfl (fun h1 => ?_) (fun h1 => ?_)
    · replace h1 : nI 0 < nI l.length := h1
      rw [nI_ltI (by omega) (by omega)] at h1
      repeat first | refine z_i rfl rfl ?_ | refine m_gt hb rfl rfl ?_
      refine z_cVk [.int (nI l.length)] [] 2 0 0 rfl (m_obj hb) rfl rfl (Nat.le_of_ble_eq_true rfl) (Nat.le_of_ble_eq_true rfl) (by omega) (by omega) (by omega) (r_freshB (g := fun j => p_el xs.length (p_at xs) (p_at l j)) hb (by omega) h' (fun S1 q h3 => ⟨_, rfl, ?_⟩))
      refine z_i rfl rfl ?_
      refine z_i rfl rfl ?_
      refine z_i rfl rfl ?_
      exact r_picked_loop (S := jT S T) (d := d) hb (by omega) (RT_tr jT_kpA kpI_refl hA) hl hT hQ l.length 0 S1 (by omega) h3
    · replace h1 : ¬ nI 0 < nI l.length := h1
      rw [nI_ltI (by omega) (by omega)] at h1
      have h0 : l.length = 0 := by omega
      rw [h0] at hQ
      repeat first | refine z_i rfl rfl ?_ | refine m_gt hb rfl rfl ?_
      exact z_retI rfl (Nat.zero_le _) (Nat.zero_le _) (MR_nul h' hQ)
theorem p_svL_na {f : Nat → Int32} : ∀ (r j : Nat) (x : Int32 × Int32 × Int32), ¬ (p_svL f r j x).2.2 = 0 → ¬ x.2.2 = 0 ∨ ∃ i : Nat, j ≤ i ∧ i < j + r ∧ f i = pNA := by
  intro r
  induction r with
  | zero => intro j x h; exact Or.inl h
  | succ r ih =>
    intro j x h
    rw [p_svL] at h
    rcases ih _ _ h with h1 | ⟨i, h1, h2, h3⟩
    · by_cases hn : f j = pNA
      · exact Or.inr ⟨j, Nat.le_refl _, by omega, hn⟩
      · left
        intro q
        apply h1
        unfold p_sv
        rw [if_neg hn]
        split
        · split
          · exact q
          · exact q
        · exact q
    · exact Or.inr ⟨i, by omega, by omega, h3⟩
theorem p_thL_sub {f : Nat → Int32} : ∀ (r j : Nat) (l : List Int32) (x : Int32), x ∈ l → x ∈ p_thL f r j l := by
  intro r
  induction r with
  | zero => intro j l x h; exact h
  | succ r ih =>
    intro j l x h
    rw [p_thL]
    refine ih _ _ _ ?_
    split
    · exact h
    · exact List.mem_append_left _ h
theorem p_thL_in {f : Nat → Int32} : ∀ (r j : Nat) (l : List Int32) (i : Nat), j ≤ i → i < j + r → ¬ f i = 0 → p_tho (f i) ∈ p_thL f r j l := by
  intro r
  induction r with
  | zero => intro j l i h1 h2; omega
  | succ r ih =>
    intro j l i h1 h2 h3
    rw [p_thL]
    by_cases hij : i = j
    · subst hij
      rw [if_neg h3]
      exact p_thL_sub _ _ _ _ (List.mem_append_right _ (List.mem_singleton.mpr rfl))
    · exact ih _ _ i (by omega) (by omega) h3
theorem p_at_of {l : List Int32} {x : Int32} (h : x ∈ l) : ∃ k : Nat, k < l.length ∧ p_at l k = x := by
  obtain ⟨k, h1, h2⟩ := List.getElem_of_mem h
  exact ⟨k, h1, by simp [p_at, h1, h2]⟩
theorem find_no {f : Nat → Int32} {m L : Nat} (h : p_find f m L true = none) : p_find f m L false = none := by
  unfold p_find at h ⊢
  simp only [Bool.true_eq_false, and_false, if_false] at h
  split
  · rfl
  · exact h
theorem find_na {f : Nat → Int32} {m L : Nat} {l : List Int32} (hL : L ≤ 16) (h : p_find f m L true = some l) : (p_find f m L false = some l ∧ ∀ k : Nat, k < l.length → ¬ p_at l k = pNA) ∨ (p_find f m L false = none ∧ ∃ k : Nat, k < l.length ∧ p_at l k = pNA) := by
  by_cases hna : (p_svL f m 0 (0, 0, 0)).2.2 = 0
  · left
    have h2 : p_find f m L false = some l := by
      rw [← h]
      unfold p_find
      simp [hna]
    refine ⟨h2, fun k hk q => ?_⟩
    have := (p_find_pos hL h2 k hk).1
    rw [q] at this
    exact absurd this (by decide)
  · right
    refine ⟨by unfold p_find; rw [if_pos ⟨hna, rfl⟩], ?_⟩
    unfold p_find at h
    rw [if_neg (fun q => by cases q.2)] at h
    split at h
    · cases h
      rcases p_svL_na _ _ _ hna with h1 | ⟨i, h1, h2, h3⟩
      · exact absurd rfl h1
      · have := p_thL_in (f := f) m 0 [] i h1 h2 (by rw [h3]; decide)
        unfold p_tho at this
        rw [if_pos h3] at this
        exact p_at_of this
    · rw [if_neg (fun q => hna q.2)] at h
      cases h
end MZ
