/-! the reference's vectors: building one -/
section BV
variable {dA : Nat → ClassId} {b : Nat → Nat} {w : ww_W} {S S' : mm} {d : Nat} {Q : zQ} {P : aP} {mk B n q : Nat} {res : rP} {F : List fF} {x : Option aV} {s : aS} {y : Int32}
def kpB (S S' : mm) : Prop := ∀ k : Nat, k ≠ 7 → k ≠ 8 → S'.2.2.2 k = S.2.2.2 k
theorem kpB_A (h : kpB S S') : kpA S S' := fun k a1 a2 _ => h k a1 a2
/-- an end: some number stands for v -/
def OV (dA : Nat → ClassId) (b : Nat → Nat) (w : ww_W) (P : aP) (mk B : Nat) (res : rP) (S : mm) (F : List fF) (x : Option aV) (s : aS) (v : aV) (Q : zQ) : Prop := ∀ (S' : mm) (y : Int32), MR P mk B res 1000 S' F x s → VR P mk (sN s) 1000 S' y v → kpA S S' → kpI S S' → Q (.inl (some (.int y))) (mw dA b w S') 0 0
/-- a stands for u and goes on to, while the table changes -/
def RT (P : aP) (mk B : Nat) (res : rP) (S : mm) (F : List fF) (x : Option aV) (s : aS) (a : Nat) (u : aV) : Prop := a < 1000 ∧ ∀ (S' : mm) (q : Nat), MR P mk B res q S' F x s → kpA S S' → kpI S S' → VR P mk (sN s) q S' (nI a) u
def BS (P : aP) (mk B : Nat) (res : rP) (S : mm) (F : List fF) (x : Option aV) (s : aS) (q m i : Nat) (g : Nat → Int32) (S' : mm) : Prop := MR P mk B res q S' F x s ∧ q < 1000 ∧ S'.2.2.2 7 q = nI m ∧ S'.2.2.2 8 q = 1 ∧ (∀ j : Nat, j < i → atS S'.2.2.1 q j = g j) ∧ kpB S S' ∧ kpI S S'
theorem VR_inl {a : Nat} {xs : List Int32} (ha : a < 1000) (h : VR P mk n q S (nI a) (.inl xs)) : S.2.2.2 7 a = nI xs.length ∧ okX xs ∧ (∀ k : Nat, k < xs.length → atS S.2.2.1 a k = p_at xs k) ∧ a ≠ q := by
  obtain ⟨j, h1, h2, h3, h4, h5, h6, h7⟩ := h
  rw [nI_eq (by omega) (by omega)] at h1
  subst h1
  exact ⟨h5, h6, h7, h3⟩
theorem BS_put {m i i' p : Nat} {g g' : Nat → Int32} {e : Int32} (h : BS P mk B res S F x s q m i g S') (hp : p < 16) (hi : i' ≤ 16) (hg : ∀ j : Nat, j < i' → (j = p ∧ g' j = e) ∨ (j ≠ p ∧ j < i ∧ g' j = g j)) : BS P mk B res S F x s q m i' g' (stS S' q p e) := by
  obtain ⟨h1, h2, h3, h4, h5, h6, h7⟩ := h
  refine ⟨MR_all h1 kpA_refl kpI_refl h1.2.2.1.1 (fun y v hv => VR_mem (S := S') (S' := stS S' q p e) (fun j q1 q2 => ⟨rfl, rfl, fun k q3 => pk_uLn (by omega)⟩) hv), h2, h3, h4, fun j hj => ?_, h6, h7⟩
  rw [at_st hp (by omega)]
  rcases hg j hj with ⟨rfl, q2⟩ | ⟨q1, q2, q3⟩
  · rw [if_pos ⟨rfl, rfl⟩, q2]
  · rw [if_neg (fun q => q1 q.2), q3]
    exact h5 j q2
theorem BS_next {m i : Nat} {g : Nat → Int32} {e : Int32} (h : BS P mk B res S F x s q m i g S') (hi : i < 16) (he : e = g i) : BS P mk B res S F x s q m (i + 1) g (stS S' q i e) := by
  subst he
  refine BS_put h hi (by omega) (fun j hj => ?_)
  by_cases hji : j = i
  · exact Or.inl ⟨hji, by rw [hji]⟩
  · exact Or.inr ⟨hji, by omega, rfl⟩
theorem BS_end {m : Nat} {g : Nat → Int32} (h : BS P mk B res S F x s q m m g S') (hm : m ≤ 16) (hg : ∀ j : Nat, j < m → okI (g j)) (hQ : OV dA b w P mk B res S F x s (.inl (vg m g)) Q) : Q (.inl (some (.int (nI q)))) (mw dA b w S') 0 0 := by
  obtain ⟨h1, h2, h3, h4, h5, h6, h7⟩ := h
  refine hQ S' (nI q) (MR_q h1) ⟨q, rfl, h2, by omega, h4, ?_⟩ (kpB_A h6) h7
  refine ⟨by rw [vg_len]; exact h3, ⟨by rw [vg_len]; exact hm, fun j hj => ?_⟩, fun k hk => ?_⟩
  · rw [vg_len] at hj
    rw [vg_at hj]
    exact hg j hj
  · rw [vg_len] at hk
    rw [vg_at hk]
    exact h5 k hk
theorem BS_rt {m i a : Nat} {g : Nat → Int32} {u : aV} (h : BS P mk B res S F x s q m i g S') (ha : RT P mk B res S F x s a u) : VR P mk (sN s) q S' (nI a) u := ha.2 S' q h.1 (kpB_A h.2.2.2.2.2.1) h.2.2.2.2.2.2
theorem RT_0 {a : Nat} {u : aV} (h : MR P mk B res 1000 S F x s) (ha : RT P mk B res S F x s a u) : VR P mk (sN s) 1000 S (nI a) u := ha.2 S 1000 h kpA_refl kpI_refl
theorem r_freshB (hb : mB b) (hd : 2 ≤ d) {m : Nat} {g : Nat → Int32} (h : MR P mk B res 1000 S F x s) (hQ : ∀ (S' : mm) (q : Nat), BS P mk B res S F x s q m 0 g S' → Q (.inl (some (.int (nI q)))) (mw dA b w S') 0 0) : zx dA d 0 0 M_VectorLanguageModel_fresh 0 (zargs 3 [.ref (b 0), .int (nI m)]) [] (mw dA b w S) 0 0 Q :=
  r_fresh hb hd h (fun S' q h1 h2 => hQ S' q ⟨h1, h2.1, h2.2.1, h2.2.2.1, fun j hj => by omega, h2.2.2.2.1, h2.2.2.2.2⟩)
theorem MR_nul (h : MR P mk B res 1000 S F x s) (hQ : OV dA b w P mk B res S F x s (.inl []) Q) : Q (.inl (some (.int 0))) (mw dA b w S) 0 0 := hQ S 0 h h.2.2.1.2.1 kpA_refl kpI_refl
theorem r_oneR (hb : mB b) (hd : 3 ≤ d) {e : Int32} (he : okI e) (h : MR P mk B res 1000 S F x s) (hQ : OV dA b w P mk B res S F x s (.inl [e]) Q) : zx dA d 0 0 M_VectorLanguageModel_one 0 (zargs 3 [.ref (b 0), .int e]) [] (mw dA b w S) 0 0 Q := by
  repeat first | refine z_i rfl rfl ?_ | refine m_gt hb rfl rfl ?_
  refine z_cVk [.int 1] [] 2 0 0 rfl (m_obj hb) rfl rfl (Nat.le_of_ble_eq_true rfl) (Nat.le_of_ble_eq_true rfl) (by omega) (by omega) (by omega) (r_freshB (m := 1) (g := fun _ => e) hb (by omega) h (fun S1 q h1 => ⟨_, rfl, ?_⟩))
  repeat first | refine z_i rfl rfl ?_ | refine m_gt hb rfl rfl ?_
  refine z_cVk [.int (nI q), .int 0, .int e] [] 0 0 0 rfl (m_obj hb) rfl rfl (Nat.le_of_ble_eq_true rfl) (Nat.le_of_ble_eq_true rfl) (by omega) (by omega) (by omega) (r_set (k := 0) hb h1.2.1 (by decide) ⟨_, rfl, ?_⟩)
  repeat first | refine z_i rfl rfl ?_ | refine m_gt hb rfl rfl ?_
  refine z_retI rfl (Nat.zero_le _) (Nat.zero_le _) ?_
  rw [show [e] = vg 1 (fun _ => e) from rfl] at hQ
  exact BS_end (BS_next h1 (by decide) rfl) (by decide) (fun _ _ => he) hQ
theorem r_failed (hb : mB b) {e : Int32} (hQ : Q (.inl (some (.int 0))) (mw dA b w (jI S 29 e)) 0 0) : zx dA d 0 0 M_VectorLanguageModel_failed 0 (zargs 2 [.ref (b 0), .int e]) [] (mw dA b w S) 0 0 Q := by
  repeat first | refine z_i rfl rfl ?_ | refine m_gt hb rfl rfl ?_
  refine m_pt hb rfl rfl ?_
  repeat first | refine z_i rfl rfl ?_ | refine m_gt hb rfl rfl ?_
  exact z_retI rfl (Nat.zero_le _) (Nat.zero_le _) hQ
/-- the state with a failure -/
theorem MR_err (h : MR P mk B res q S F x s) (e : Int32) : MR P mk B res q (jI S 29 e) F x (uX s e) := by
  obtain ⟨⟨a1, a2, a3, a4, a5, a6, a7, a8⟩, m2, m3, m4, m5, m6, m7⟩ := h
  exact ⟨⟨a1, a2, a3, a4, rfl, a6, a7, a8⟩, m2, m3, m4, m5, FR_of (S := S) (S' := jI S 29 e) (n := sN s) (q := q) (Nat.le_refl _) (fun _ _ _ _ => rfl) F x (fun _ _ _ _ _ hv => hv) m6, m7⟩
theorem r_pairwise_loop (hb : mB b) (hd : 2 ≤ d) {a c : Nat} {k op : Int32} {xs ys : List Int32} (hk : k = 6 ∨ k = 7 ∨ k = 8) (hop : k = 6 → ∃ o : Nat, o ≤ 4 ∧ op = nI o) (hA : RT P mk B res S F x s a (.inl xs)) (hC : RT P mk B res S F x s c (.inl ys)) (hx0 : 0 < xs.length) (hy0 : 0 < ys.length) (hM : max xs.length ys.length ≤ 16)
    (hQ : OV dA b w P mk B res S F x s (.inl (vg (max xs.length ys.length) (fun j => p_pair k op (p_at xs (j % xs.length)) (p_at ys (j % ys.length))))) Q) : ∀ (r i : Nat) (S' : mm) (o8 o9 : Option Value), i + r = max xs.length ys.length → BS P mk B res S F x s q (max xs.length ys.length) i (fun j => p_pair k op (p_at xs (j % xs.length)) (p_at ys (j % ys.length))) S' →
    zx dA d 0 0 M_VectorLanguageModel_pairwise 66 [some (.ref (b 0)), some (.int k), some (.int op), some (.int (nI a)), some (.int (nI c)), some (.int (nI (max xs.length ys.length))), some (.int (nI q)), some (.int (nI i)), o8, o9] [] (mw dA b w S') 0 0 Q := by
  intro r
  induction r with
  | zero =>
    intro i S' o8 o9 hi h
    refine z_i rfl rfl ?_
    refine z_i rfl rfl ?_
    refine z_bt rfl rfl (nI_le (by omega) (by omega)) ?_
    refine z_i rfl rfl ?_
    refine z_retI rfl (Nat.zero_le _) (Nat.zero_le _) ?_
    obtain ⟨_, x2, _, _⟩ := VR_inl hA.1 (BS_rt h hA)
    obtain ⟨_, y2, _, _⟩ := VR_inl hC.1 (BS_rt h hC)
    have hi' : i = max xs.length ys.length := by omega
    rw [hi'] at h
    exact BS_end h hM (fun j _ => okI_pair (x2.2 _ (Nat.mod_lt _ hx0)) (y2.2 _ (Nat.mod_lt _ hy0))) hQ
  | succ r ih =>
    intro i S' o8 o9 hi h
    obtain ⟨x1, x2, x3, x4⟩ := VR_inl hA.1 (BS_rt h hA)
    obtain ⟨y1, y2, y3, y4⟩ := VR_inl hC.1 (BS_rt h hC)
    have ha := hA.1
    have hc := hC.1
    have hxm := Nat.mod_lt i hx0
    have hym := Nat.mod_lt i hy0
    have hq := h.2.1
    refine z_i rfl rfl ?_
    refine z_i rfl rfl ?_
    refine z_bf rfl rfl (nI_ge (by omega) (by omega)) ?_
    repeat first | refine z_i rfl rfl ?_ | refine m_gt hb rfl rfl ?_
    refine m_ldv hb (j := a) rfl rfl rfl ha x1 ?_
    refine z_dv rfl (nI_ne0 hx0 (by omega)) ?_
    rw [pk_rem (by omega) hx0 (by omega)]
    refine z_cVk [.int (nI a), .int (nI (i % xs.length))] [] 0 0 0 rfl (m_obj hb) rfl rfl (Nat.le_of_ble_eq_true rfl) (Nat.le_of_ble_eq_true rfl) (by omega) (by omega) (by omega) (r_atv hb (x3 _ hxm) ha (by omega) _ ⟨_, rfl, ?_⟩)
    repeat first | refine z_i rfl rfl ?_ | refine m_gt hb rfl rfl ?_
    refine m_ldv hb (j := c) rfl rfl rfl hc y1 ?_
    refine z_dv rfl (nI_ne0 hy0 (by omega)) ?_
    rw [pk_rem (by omega) hy0 (by omega)]
    refine z_cVk [.int (nI c), .int (nI (i % ys.length))] [] 0 0 0 rfl (m_obj hb) rfl rfl (Nat.le_of_ble_eq_true rfl) (Nat.le_of_ble_eq_true rfl) (by omega) (by omega) (by omega) (r_atv hb (y3 _ hym) hc (by omega) _ ⟨_, rfl, ?_⟩)
    have hset : ∀ o8 o9 : Option Value, zx dA d 0 0 M_VectorLanguageModel_pairwise 154 [some (.ref (b 0)), some (.int k), some (.int op), some (.int (nI a)), some (.int (nI c)), some (.int (nI (max xs.length ys.length))), some (.int (nI q)), some (.int (nI i)), o8, o9] [.int (p_pair k op (p_at xs (i % xs.length)) (p_at ys (i % ys.length))), .int (nI i), .int (nI q), .ref (b 0)] (mw dA b w S') 0 0 Q := by
      intro o8 o9
      refine z_cVk [.int (nI q), .int (nI i), .int (p_pair k op (p_at xs (i % xs.length)) (p_at ys (i % ys.length)))] [] 0 0 0 rfl (m_obj hb) rfl rfl (Nat.le_of_ble_eq_true rfl) (Nat.le_of_ble_eq_true rfl) (by omega) (by omega) (by omega) (r_set hb hq (by omega) ⟨_, rfl, ?_⟩)
      refine z_i rfl rfl ?_
      refine z_j rfl ?_
      have := ih (i + 1) _ o8 o9 (by omega) (BS_next h (by omega) rfl)
      rw [← nI_1] at this
      exact this
    repeat first | refine z_i rfl rfl ?_ | refine m_gt hb rfl rfl ?_
    refine z_b rfl rfl (fun h6 => ?_) (fun h6 => ?_)
    · replace h6 : ¬ k = 6 := h6
      repeat first | refine z_i rfl rfl ?_ | refine m_gt hb rfl rfl ?_
      refine z_b rfl rfl (fun h7 => ?_) (fun h7 => ?_)
      · replace h7 : ¬ k = 7 := h7
        have h8 : k = 8 := by rcases hk with q1 | q1 | q1 <;> simp_all
        subst h8
        repeat first | refine z_i rfl rfl ?_ | refine m_gt hb rfl rfl ?_
        refine z_cSk [.int op, .int (p_at xs (i % xs.length)), .int (p_at ys (i % ys.length))] [.int (nI i), .int (nI q), .ref (b 0)] 0 0 0 rfl rfl rfl (Nat.le_of_ble_eq_true rfl) (Nat.le_of_ble_eq_true rfl) (by omega) (by omega) (by omega) (r_logic ⟨_, rfl, ?_⟩)
        exact hset _ _
      · have h7' : k = 7 := Classical.not_not.mp h7
        subst h7'
        repeat first | refine z_i rfl rfl ?_ | refine m_gt hb rfl rfl ?_
        refine z_cSk [.int op, .int (p_at xs (i % xs.length)), .int (p_at ys (i % ys.length))] [.int (nI i), .int (nI q), .ref (b 0)] 0 0 0 rfl rfl rfl (Nat.le_of_ble_eq_true rfl) (Nat.le_of_ble_eq_true rfl) (by omega) (by omega) (by omega) (r_cmpR ⟨_, rfl, ?_⟩)
        refine z_j rfl ?_
        exact hset _ _
    · have h6' : k = 6 := Classical.not_not.mp h6
      subst h6'
      repeat first | refine z_i rfl rfl ?_ | refine m_gt hb rfl rfl ?_
      refine z_cSk [.int op, .int (p_at xs (i % xs.length)), .int (p_at ys (i % ys.length))] [.int (nI i), .int (nI q), .ref (b 0)] 1 0 0 rfl rfl rfl (Nat.le_of_ble_eq_true rfl) (Nat.le_of_ble_eq_true rfl) (by omega) (by omega) (by omega) (r_arith (by omega) (hop rfl) (x2.2 _ hxm) (y2.2 _ hym) ⟨_, rfl, ?_⟩)
      refine z_j rfl ?_
      exact hset _ _
theorem r_pairwise (hb : mB b) (hd : 3 ≤ d) {a c : Nat} {k op : Int32} {xs ys : List Int32} (h : MR P mk B res 1000 S F x s) (hk : k = 6 ∨ k = 7 ∨ k = 8) (hop : k = 6 → ∃ o : Nat, o ≤ 4 ∧ op = nI o) (hA : RT P mk B res S F x s a (.inl xs)) (hC : RT P mk B res S F x s c (.inl ys))
    (hQ : OV dA b w P mk B res S F x s (.inl (e_pair k op xs ys)) Q) : zx dA d 0 0 M_VectorLanguageModel_pairwise 0 (zargs 10 [.ref (b 0), .int k, .int op, .int (nI a), .int (nI c)]) [] (mw dA b w S) 0 0 Q := by
  obtain ⟨x1, x2, x3, x4⟩ := VR_inl hA.1 (RT_0 h hA)
  obtain ⟨y1, y2, y3, y4⟩ := VR_inl hC.1 (RT_0 h hC)
  have ha := hA.1
  have hc := hC.1
  have hx16 := x2.1
  have hy16 := y2.1
  have hnul : xs.length = 0 ∨ ys.length = 0 → zx dA d 0 0 M_VectorLanguageModel_pairwise 19 (zargs 10 [.ref (b 0), .int k, .int op, .int (nI a), .int (nI c)]) [] (mw dA b w S) 0 0 Q := by
    intro hh
    repeat first | refine z_i rfl rfl ?_ | refine m_gt hb rfl rfl ?_
    refine z_retI rfl (Nat.zero_le _) (Nat.zero_le _) ?_
    unfold e_pair at hQ
    rw [if_pos hh] at hQ
    exact MR_nul h hQ
  repeat first | refine z_i rfl rfl ?_ | refine m_gt hb rfl rfl ?_
  refine m_ldv hb (j := a) rfl rfl rfl ha x1 ?_
  refine z_b rfl rfl (fun h1 => hnul (Or.inl ((nI_z (by omega)).mp h1))) (fun h1 => ?_)
  have hx0 : ¬ xs.length = 0 := fun q => h1 (by rw [q]; rfl)
  repeat first | refine z_i rfl rfl ?_ | refine m_gt hb rfl rfl ?_
  refine m_ldv hb (j := c) rfl rfl rfl hc y1 ?_
  refine z_b rfl rfl (fun h2 => ?_) (fun h2 => hnul (Or.inr ((nI_z (by omega)).mp (Classical.not_not.mp h2))))
  have hy0 : ¬ ys.length = 0 := fun q => h2 (by rw [q]; rfl)
  unfold e_pair at hQ
  rw [if_neg (by omega)] at hQ
  have hgo : zx dA d 0 0 M_VectorLanguageModel_pairwise 53 (zargs 10 [.ref (b 0), .int k, .int op, .int (nI a), .int (nI c)]) [.int (nI (max xs.length ys.length))] (mw dA b w S) 0 0 Q := by
    repeat first | refine z_i rfl rfl ?_ | refine m_gt hb rfl rfl ?_
    refine z_cVk [.int (nI (max xs.length ys.length))] [] 2 0 0 rfl (m_obj hb) rfl rfl (Nat.le_of_ble_eq_true rfl) (Nat.le_of_ble_eq_true rfl) (by omega) (by omega) (by omega) (r_freshB (g := fun j => p_pair k op (p_at xs (j % xs.length)) (p_at ys (j % ys.length))) hb (by omega) h (fun S1 q h3 => ⟨_, rfl, ?_⟩))
    refine z_i rfl rfl ?_
    refine z_i rfl rfl ?_
    refine z_i rfl rfl ?_
    have := r_pairwise_loop (d := d) hb (by omega) hk hop hA hC (by omega) (by omega) (by omega) hQ (max xs.length ys.length) 0 S1 none none (by omega) h3
    exact this
  repeat first | refine z_i rfl rfl ?_ | refine m_gt hb rfl rfl ?_
  refine m_ldv hb (j := a) rfl rfl rfl ha x1 ?_
  repeat first | refine z_i rfl rfl ?_ | refine m_gt hb rfl rfl ?_
  refine m_ldv hb (j := c) rfl rfl rfl hc y1 ?_
  refine z_b rfl rfl (fun h3 => ?_) (fun h3 => ?_)
  · replace h3 : nI xs.length ≤ nI ys.length := h3
    rw [nI_leI (by omega) (by omega)] at h3
    repeat first | refine z_i rfl rfl ?_ | refine m_gt hb rfl rfl ?_
    refine m_ldv hb (j := c) rfl rfl rfl hc y1 ?_
    have e : max xs.length ys.length = ys.length := by omega
    rw [e] at hgo
    exact hgo
  · replace h3 : ¬ nI xs.length ≤ nI ys.length := h3
    rw [nI_leI (by omega) (by omega)] at h3
    repeat first | refine z_i rfl rfl ?_ | refine m_gt hb rfl rfl ?_
    refine m_ldv hb (j := a) rfl rfl rfl ha x1 ?_
    refine z_j rfl ?_
    have e : max xs.length ys.length = xs.length := by omega
    rw [e] at hgo
    exact hgo
end BV
