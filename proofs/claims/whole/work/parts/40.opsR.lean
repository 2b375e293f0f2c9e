/-! the reference's vectors: not, joined, range, sum, same -/
section MV
variable {dA : Nat → ClassId} {b : Nat → Nat} {w : ww_W} {S S' : mm} {d : Nat} {Q : zQ} {P : aP} {mk B n q : Nat} {res : rP} {F : List fF} {x : Option aV} {s : aS} {y : Int32}
theorem r_notR_loop (hb : mB b) (hd : 1 ≤ d) {a : Nat} {xs : List Int32} (hA : RT P mk B res S F x s a (.inl xs))
    (hQ : OV dA b w P mk B res S F x s (.inl (vg xs.length (fun j => p_not (p_at xs j)))) Q) : ∀ (r i : Nat) (S' : mm), i + r = xs.length → BS P mk B res S F x s q xs.length i (fun j => p_not (p_at xs j)) S' →
    zx dA d 0 0 M_VectorLanguageModel_not 24 [some (.ref (b 0)), some (.int (nI a)), some (.int (nI q)), some (.int (nI i))] [] (mw dA b w S') 0 0 Q := by
  intro r
  have ha := hA.1
  induction r with
  | zero =>
    intro i S' hi h
    obtain ⟨x1, x2, x3, x4⟩ := VR_inl hA.1 (BS_rt h hA)
    have hx16 := x2.1
    repeat first | refine z_i rfl rfl ?_ | refine m_gt hb rfl rfl ?_
    refine m_ldv hb (j := a) rfl rfl rfl ha x1 ?_
    refine z_bt rfl rfl (nI_le (by omega) (by omega)) ?_
    refine z_i rfl rfl ?_
    refine z_retI rfl (Nat.zero_le _) (Nat.zero_le _) ?_
    have hi' : i = xs.length := by omega
    rw [hi'] at h
    exact BS_end h hx16 (fun j hj => okI_not _) hQ
  | succ r ih =>
    intro i S' hi h
    obtain ⟨x1, x2, x3, x4⟩ := VR_inl hA.1 (BS_rt h hA)
    have hx16 := x2.1
    have hq := h.2.1
    have hset : zx dA d 0 0 M_VectorLanguageModel_not 67 [some (.ref (b 0)), some (.int (nI a)), some (.int (nI q)), some (.int (nI i))] [.int (p_not (p_at xs i)), .int (nI i), .int (nI q), .ref (b 0)] (mw dA b w S') 0 0 Q := by
      refine z_cVk [.int (nI q), .int (nI i), .int (p_not (p_at xs i))] [] 0 0 0 rfl (m_obj hb) rfl rfl (Nat.le_of_ble_eq_true rfl) (Nat.le_of_ble_eq_true rfl) (by omega) (by omega) (by omega) (r_set hb hq (by omega) ⟨_, rfl, ?_⟩)
      refine z_i rfl rfl ?_
      refine z_j rfl ?_
      have := ih (i + 1) _ (by omega) (BS_next h (by omega) rfl)
      rw [← nI_1] at this
      exact this
    repeat first | refine z_i rfl rfl ?_ | refine m_gt hb rfl rfl ?_
    refine m_ldv hb (j := a) rfl rfl rfl ha x1 ?_
    refine z_bf rfl rfl (nI_ge (by omega) (by omega)) ?_
    repeat first | refine z_i rfl rfl ?_ | refine m_gt hb rfl rfl ?_
    refine z_cVk [.int (nI a), .int (nI i)] [.int (nI i), .int (nI q), .ref (b 0)] 0 0 0 rfl (m_obj hb) rfl rfl (Nat.le_of_ble_eq_true rfl) (Nat.le_of_ble_eq_true rfl) (by omega) (by omega) (by omega) (r_atv hb (x3 _ (by omega)) ha (by omega) _ ⟨_, rfl, ?_⟩)
    repeat first | refine z_i rfl rfl ?_ | refine m_gt hb rfl rfl ?_
    refine z_b rfl rfl (fun h1 => ?_) (fun h1 => ?_)
    · replace h1 : ¬ p_at xs i = pNA := h1
      repeat first | refine z_i rfl rfl ?_ | refine m_gt hb rfl rfl ?_
      refine z_cVk [.int (nI a), .int (nI i)] [.int (nI i), .int (nI q), .ref (b 0)] 0 0 0 rfl (m_obj hb) rfl rfl (Nat.le_of_ble_eq_true rfl) (Nat.le_of_ble_eq_true rfl) (by omega) (by omega) (by omega) (r_atv hb (x3 _ (by omega)) ha (by omega) _ ⟨_, rfl, ?_⟩)
      refine z_b rfl rfl (fun h2 => ?_) (fun h2 => ?_)
      · replace h2 : ¬ p_at xs i = 0 := h2
        rw [show p_not (p_at xs i) = 0 by unfold p_not; rw [if_neg h1, if_neg h2]] at hset
        refine z_i rfl rfl ?_
        exact hset
      · replace h2 : p_at xs i = 0 := Classical.not_not.mp h2
        rw [show p_not (p_at xs i) = 1 by unfold p_not; rw [if_neg h1, if_pos h2]] at hset
        refine z_i rfl rfl ?_
        refine z_j rfl ?_
        exact hset
    · replace h1 : p_at xs i = pNA := Classical.not_not.mp h1
      rw [show p_not (p_at xs i) = pNA by simp [p_not, h1]] at hset
      refine z_i rfl rfl ?_
      refine z_j rfl ?_
      exact hset
theorem r_notR (hb : mB b) (hd : 3 ≤ d) {a : Nat} {xs : List Int32} (h : MR P mk B res 1000 S F x s) (hA : RT P mk B res S F x s a (.inl xs))
    (hQ : OV dA b w P mk B res S F x s (.inl (vg xs.length (fun j => p_not (p_at xs j)))) Q) : zx dA d 0 0 M_VectorLanguageModel_not 0 (zargs 4 [.ref (b 0), .int (nI a)]) [] (mw dA b w S) 0 0 Q := by
  have ha := hA.1
  obtain ⟨x1, x2, x3, x4⟩ := VR_inl hA.1 (RT_0 h hA)
  have hx16 := x2.1
  repeat first | refine z_i rfl rfl ?_ | refine m_gt hb rfl rfl ?_
  refine m_ldv hb (j := a) rfl rfl rfl ha x1 ?_
  refine z_b rfl rfl (fun h1 => ?_) (fun h1 => ?_)
  · repeat first | refine z_i rfl rfl ?_ | refine m_gt hb rfl rfl ?_
    refine m_ldv hb (j := a) rfl rfl rfl ha x1 ?_
    refine z_cVk [.int (nI xs.length)] [] 2 0 0 rfl (m_obj hb) rfl rfl (Nat.le_of_ble_eq_true rfl) (Nat.le_of_ble_eq_true rfl) (by omega) (by omega) (by omega) (r_freshB (g := fun j => p_not (p_at xs j)) hb (by omega) h (fun S1 q h3 => ⟨_, rfl, ?_⟩))
    refine z_i rfl rfl ?_
    refine z_i rfl rfl ?_
    refine z_i rfl rfl ?_
    exact r_notR_loop (d := d) hb (by omega) hA hQ xs.length 0 S1 (by omega) h3
  · have h0 : xs.length = 0 := (nI_z (by omega)).mp (Classical.not_not.mp h1)
    repeat first | refine z_i rfl rfl ?_ | refine m_gt hb rfl rfl ?_
    refine z_retI rfl (Nat.zero_le _) (Nat.zero_le _) ?_
    rw [h0] at hQ
    exact MR_nul h hQ
theorem r_joined_loop (hb : mB b) (hd : 1 ≤ d) {a c : Nat} {xs ys : List Int32} (hA : RT P mk B res S F x s a (.inl xs)) (hC : RT P mk B res S F x s c (.inl ys)) (h16 : xs.length + ys.length ≤ 16)
    (hQ : OV dA b w P mk B res S F x s (.inl (vg (xs.length + ys.length) (fun j => if j < xs.length then p_at xs j else p_at ys (j - xs.length)))) Q) : ∀ (r i : Nat) (S' : mm), i + r = xs.length + ys.length → BS P mk B res S F x s q (xs.length + ys.length) i (fun j => if j < xs.length then p_at xs j else p_at ys (j - xs.length)) S' →
    zx dA d 0 0 M_VectorLanguageModel_joined 42 [some (.ref (b 0)), some (.int (nI a)), some (.int (nI c)), some (.int (nI (xs.length + ys.length))), some (.int (nI q)), some (.int (nI i))] [] (mw dA b w S') 0 0 Q := by
  intro r
  have ha := hA.1
  have hc := hC.1
  induction r with
  | zero =>
    intro i S' hi h
    obtain ⟨x1, x2, x3, x4⟩ := VR_inl hA.1 (BS_rt h hA)
    obtain ⟨y1, y2, y3, y4⟩ := VR_inl hC.1 (BS_rt h hC)
    refine z_i rfl rfl ?_
    refine z_i rfl rfl ?_
    refine z_bt rfl rfl (nI_le (by omega) (by omega)) ?_
    refine z_i rfl rfl ?_
    refine z_retI rfl (Nat.zero_le _) (Nat.zero_le _) ?_
    have hi' : i = xs.length + ys.length := by omega
    rw [hi'] at h
    refine BS_end h h16 (fun j hj => ?_) hQ
    split
    · exact x2.2 _ (by assumption)
    · exact y2.2 _ (by omega)
  | succ r ih =>
    intro i S' hi h
    obtain ⟨x1, x2, x3, x4⟩ := VR_inl hA.1 (BS_rt h hA)
    obtain ⟨y1, y2, y3, y4⟩ := VR_inl hC.1 (BS_rt h hC)
    have hq := h.2.1
    have hset : ∀ e : Int32, e = (if i < xs.length then p_at xs i else p_at ys (i - xs.length)) → zx dA d 0 0 M_VectorLanguageModel_joined 88 [some (.ref (b 0)), some (.int (nI a)), some (.int (nI c)), some (.int (nI (xs.length + ys.length))), some (.int (nI q)), some (.int (nI i))] [.int e, .int (nI i), .int (nI q), .ref (b 0)] (mw dA b w S') 0 0 Q := by
      intro e he
      refine z_cVk [.int (nI q), .int (nI i), .int e] [] 0 0 0 rfl (m_obj hb) rfl rfl (Nat.le_of_ble_eq_true rfl) (Nat.le_of_ble_eq_true rfl) (by omega) (by omega) (by omega) (r_set hb hq (by omega) ⟨_, rfl, ?_⟩)
      refine z_i rfl rfl ?_
      refine z_j rfl ?_
      have := ih (i + 1) _ (by omega) (BS_next h (by omega) he)
      rw [← nI_1] at this
      exact this
    refine z_i rfl rfl ?_
    refine z_i rfl rfl ?_
    refine z_bf rfl rfl (nI_ge (by omega) (by omega)) ?_
    repeat first | refine z_i rfl rfl ?_ | refine m_gt hb rfl rfl ?_
    refine m_ldv hb (j := a) rfl rfl rfl ha x1 ?_
    refine z_b rfl rfl (fun h1 => ?_) (fun h1 => ?_)
    · replace h1 : nI xs.length ≤ nI i := h1
      rw [nI_leI (by omega) (by omega)] at h1
      repeat first | refine z_i rfl rfl ?_ | refine m_gt hb rfl rfl ?_
      refine m_ldv hb (j := a) rfl rfl rfl ha x1 ?_
      refine z_i rfl rfl ?_
      dsimp only
      rw [pk_sub h1]
      refine z_cVk [.int (nI c), .int (nI (i - xs.length))] [.int (nI i), .int (nI q), .ref (b 0)] 0 0 0 rfl (m_obj hb) rfl rfl (Nat.le_of_ble_eq_true rfl) (Nat.le_of_ble_eq_true rfl) (by omega) (by omega) (by omega) (r_atv hb (y3 _ (by omega)) hc (by omega) _ ⟨_, rfl, ?_⟩)
      exact hset _ (by rw [if_neg (by omega)])
    · replace h1 : ¬ nI xs.length ≤ nI i := h1
      rw [nI_leI (by omega) (by omega)] at h1
      repeat first | refine z_i rfl rfl ?_ | refine m_gt hb rfl rfl ?_
      refine z_cVk [.int (nI a), .int (nI i)] [.int (nI i), .int (nI q), .ref (b 0)] 0 0 0 rfl (m_obj hb) rfl rfl (Nat.le_of_ble_eq_true rfl) (Nat.le_of_ble_eq_true rfl) (by omega) (by omega) (by omega) (r_atv hb (x3 _ (by omega)) ha (by omega) _ ⟨_, rfl, ?_⟩)
      refine z_j rfl ?_
      exact hset _ (by rw [if_pos (by omega)])
/-- an end: what e_out says -/
def OU (dA : Nat → ClassId) (b : Nat → Nat) (w : ww_W) (P : aP) (mk B : Nat) (res : rP) (S : mm) (F : List fF) (x : Option aV) (s : aS) (Q : zQ) : List Int32 ⊕ Int32 → Prop
  | .inl xs => OV dA b w P mk B res S F x s (.inl xs) Q
  | .inr e => ∀ S' : mm, MR P mk B res 1000 S' F x (uX s e) → Q (.inl (some (.int 0))) (mw dA b w S') 0 0
theorem r_joined (hb : mB b) (hd : 3 ≤ d) {a c : Nat} {xs ys : List Int32} (h : MR P mk B res 1000 S F x s) (hA : RT P mk B res S F x s a (.inl xs)) (hC : RT P mk B res S F x s c (.inl ys))
    (hQ : OU dA b w P mk B res S F x s Q (e_join xs ys)) : zx dA d 0 0 M_VectorLanguageModel_joined 0 (zargs 6 [.ref (b 0), .int (nI a), .int (nI c)]) [] (mw dA b w S) 0 0 Q := by
  have ha := hA.1
  have hc := hC.1
  obtain ⟨x1, x2, x3, x4⟩ := VR_inl hA.1 (RT_0 h hA)
  obtain ⟨y1, y2, y3, y4⟩ := VR_inl hC.1 (RT_0 h hC)
  have hx16 := x2.1
  have hy16 := y2.1
  repeat first | refine z_i rfl rfl ?_ | refine m_gt hb rfl rfl ?_
  refine m_ldv hb (j := a) rfl rfl rfl ha x1 ?_
  repeat first | refine z_i rfl rfl ?_ | refine m_gt hb rfl rfl ?_
  refine m_ldv hb (j := c) rfl rfl rfl hc y1 ?_
  refine z_i rfl rfl ?_
  dsimp only
  rw [nI_add]
  repeat first | refine z_i rfl rfl ?_ | refine m_gt hb rfl rfl ?_
  unfold e_join at hQ
  refine z_b rfl rfl (fun h1 => ?_) (fun h1 => ?_)
  · replace h1 : nI (xs.length + ys.length) ≤ nI 16 := h1
    rw [nI_leI (by omega) (by omega)] at h1
    rw [if_pos h1] at hQ
    repeat first | refine z_i rfl rfl ?_ | refine m_gt hb rfl rfl ?_
    refine z_b rfl rfl (fun h2 => ?_) (fun h2 => ?_)
    · repeat first | refine z_i rfl rfl ?_ | refine m_gt hb rfl rfl ?_
      refine z_cVk [.int (nI (xs.length + ys.length))] [] 2 0 0 rfl (m_obj hb) rfl rfl (Nat.le_of_ble_eq_true rfl) (Nat.le_of_ble_eq_true rfl) (by omega) (by omega) (by omega) (r_freshB (g := fun j => if j < xs.length then p_at xs j else p_at ys (j - xs.length)) hb (by omega) h (fun S1 q h3 => ⟨_, rfl, ?_⟩))
      refine z_i rfl rfl ?_
      refine z_i rfl rfl ?_
      refine z_i rfl rfl ?_
      exact r_joined_loop (d := d) hb (by omega) hA hC h1 hQ (xs.length + ys.length) 0 S1 (by omega) h3
    · have h0 : xs.length + ys.length = 0 := (nI_z (by omega)).mp (Classical.not_not.mp h2)
      repeat first | refine z_i rfl rfl ?_ | refine m_gt hb rfl rfl ?_
      refine z_retI rfl (Nat.zero_le _) (Nat.zero_le _) ?_
      rw [h0] at hQ
      exact MR_nul h hQ
  · replace h1 : ¬ nI (xs.length + ys.length) ≤ nI 16 := h1
    rw [nI_leI (by omega) (by omega)] at h1
    rw [if_neg h1] at hQ
    repeat first | refine z_i rfl rfl ?_ | refine m_gt hb rfl rfl ?_
    refine z_cVk [.int 1] [] 0 0 0 rfl (m_obj hb) rfl rfl (Nat.le_of_ble_eq_true rfl) (Nat.le_of_ble_eq_true rfl) (by omega) (by omega) (by omega) (r_failed hb ⟨_, rfl, ?_⟩)
    exact z_retI rfl (Nat.zero_le _) (Nat.zero_le _) (hQ _ (MR_err h 1))
theorem r_sumR_loop (hb : mB b) (hd : 4 ≤ d) {a : Nat} {xs : List Int32} (h : MR P mk B res 1000 S F x s) (hA : RT P mk B res S F x s a (.inl xs)) : ∀ (r i : Nat) (t : Int64), i + r = xs.length → OV dA b w P mk B res S F x s (.inl [p_sumL (p_at xs) r i t]) Q →
    zx dA d 0 0 M_VectorLanguageModel_sum 5 [some (.ref (b 0)), some (.int (nI a)), some (.long t), none, some (.int (nI i))] [] (mw dA b w S) 0 0 Q := by
  intro r
  have ha := hA.1
  obtain ⟨x1, x2, x3, x4⟩ := VR_inl hA.1 (RT_0 h hA)
  have hx16 := x2.1
  induction r with
  | zero =>
    intro i t hi hQ
    repeat first | refine z_i rfl rfl ?_ | refine m_gt hb rfl rfl ?_
    refine m_ldv hb (j := a) rfl rfl rfl ha x1 ?_
    refine z_bt rfl rfl (nI_le (by omega) (by omega)) ?_
    repeat first | refine z_i rfl rfl ?_ | refine m_gt hb rfl rfl ?_
    refine z_cSk [.long t] [.ref (b 0)] 0 0 0 rfl rfl rfl (Nat.le_of_ble_eq_true rfl) (Nat.le_of_ble_eq_true rfl) (by omega) (by omega) (by omega) (r_limited dA 0 _ _ _ ⟨_, rfl, ?_⟩)
    refine z_cVk [.int (p_rng t)] [] 3 0 0 rfl (m_obj hb) rfl rfl (Nat.le_of_ble_eq_true rfl) (Nat.le_of_ble_eq_true rfl) (by omega) (by omega) (by omega) (r_oneR hb (by omega) (okI_rng _) h (fun S1 y g1 g2 g3 g4 => ⟨_, rfl, ?_⟩))
    exact z_retI rfl (Nat.zero_le _) (Nat.zero_le _) (hQ S1 y g1 g2 g3 g4)
  | succ r ih =>
    intro i t hi hQ
    repeat first | refine z_i rfl rfl ?_ | refine m_gt hb rfl rfl ?_
    refine m_ldv hb (j := a) rfl rfl rfl ha x1 ?_
    refine z_bf rfl rfl (nI_ge (by omega) (by omega)) ?_
    repeat first | refine z_i rfl rfl ?_ | refine m_gt hb rfl rfl ?_
    refine z_cVk [.int (nI a), .int (nI i)] [] 0 0 0 rfl (m_obj hb) rfl rfl (Nat.le_of_ble_eq_true rfl) (Nat.le_of_ble_eq_true rfl) (by omega) (by omega) (by omega) (r_atv hb (x3 _ (by omega)) ha (by omega) _ ⟨_, rfl, ?_⟩)
    repeat first | refine z_i rfl rfl ?_ | refine m_gt hb rfl rfl ?_
    unfold p_sumL at hQ
    refine z_b rfl rfl (fun h1 => ?_) (fun h1 => ?_)
    · replace h1 : ¬ p_at xs i = pNA := h1
      rw [if_neg h1] at hQ
      repeat first | refine z_i rfl rfl ?_ | refine m_gt hb rfl rfl ?_
      refine z_cVk [.int (nI a), .int (nI i)] [.long t] 0 0 0 rfl (m_obj hb) rfl rfl (Nat.le_of_ble_eq_true rfl) (Nat.le_of_ble_eq_true rfl) (by omega) (by omega) (by omega) (r_atv hb (x3 _ (by omega)) ha (by omega) _ ⟨_, rfl, ?_⟩)
      refine z_i rfl rfl ?_
      refine z_i rfl rfl ?_
      refine z_i rfl rfl ?_
      refine z_i rfl rfl ?_
      refine z_j rfl ?_
      have := ih (i + 1) _ (by omega) hQ
      rw [← nI_1] at this
      exact this
    · replace h1 : p_at xs i = pNA := Classical.not_not.mp h1
      rw [if_pos h1] at hQ
      repeat first | refine z_i rfl rfl ?_ | refine m_gt hb rfl rfl ?_
      refine z_cVk [.int pNA] [] 3 0 0 rfl (m_obj hb) rfl rfl (Nat.le_of_ble_eq_true rfl) (Nat.le_of_ble_eq_true rfl) (by omega) (by omega) (by omega) (r_oneR hb (by omega) (Or.inl rfl) h (fun S1 y g1 g2 g3 g4 => ⟨_, rfl, ?_⟩))
      exact z_retI rfl (Nat.zero_le _) (Nat.zero_le _) (hQ S1 y g1 g2 g3 g4)
theorem r_sumR (hb : mB b) (hd : 4 ≤ d) {a : Nat} {xs : List Int32} (h : MR P mk B res 1000 S F x s) (hA : RT P mk B res S F x s a (.inl xs)) (hQ : OV dA b w P mk B res S F x s (.inl [p_sumL (p_at xs) xs.length 0 0]) Q) : zx dA d 0 0 M_VectorLanguageModel_sum 0 (zargs 5 [.ref (b 0), .int (nI a)]) [] (mw dA b w S) 0 0 Q := by
  refine z_i rfl rfl ?_
  refine z_i rfl rfl ?_
  refine z_i rfl rfl ?_
  refine z_i rfl rfl ?_
  exact r_sumR_loop hb hd h hA xs.length 0 0 (by omega) hQ
/-- are two values the same -/
def e_sam : aV → aV → Int32
  | .inl xs, .inl ys => p_same xs.length ys.length (p_at xs) (p_at ys)
  | .inr f, .inr g => if f.2.2 = g.2.2 then 1 else 0
  | _, _ => 0
theorem r_sameR_loop (hb : mB b) (hd : 1 ≤ d) {a c : Nat} {xs ys : List Int32} (ha : a < 1000) (hc : c < 1000) (x1 : S.2.2.2 7 a = nI xs.length) (hx16 : xs.length ≤ 16) (hxy : xs.length = ys.length) (x3 : ∀ k : Nat, k < xs.length → atS S.2.2.1 a k = p_at xs k) (y3 : ∀ k : Nat, k < ys.length → atS S.2.2.1 c k = p_at ys k) : ∀ (r i : Nat), i + r = xs.length → Q (.inl (some (.int (p_eqL (p_at xs) (p_at ys) r i)))) (mw dA b w S) 0 0 →
    zx dA d 0 0 M_VectorLanguageModel_same 60 [some (.ref (b 0)), some (.int (nI a)), some (.int (nI c)), some (.int (nI i))] [] (mw dA b w S) 0 0 Q := by
  intro r
  induction r with
  | zero =>
    intro i hi hQ
    repeat first | refine z_i rfl rfl ?_ | refine m_gt hb rfl rfl ?_
    refine m_ldv hb (j := a) rfl rfl rfl ha x1 ?_
    refine z_bt rfl rfl (nI_le (by omega) (by omega)) ?_
    refine z_i rfl rfl ?_
    exact z_retZ rfl (Or.inr rfl) (Nat.zero_le _) (Nat.zero_le _) hQ
  | succ r ih =>
    intro i hi hQ
    repeat first | refine z_i rfl rfl ?_ | refine m_gt hb rfl rfl ?_
    refine m_ldv hb (j := a) rfl rfl rfl ha x1 ?_
    refine z_bf rfl rfl (nI_ge (by omega) (by omega)) ?_
    repeat first | refine z_i rfl rfl ?_ | refine m_gt hb rfl rfl ?_
    refine z_cVk [.int (nI a), .int (nI i)] [] 0 0 0 rfl (m_obj hb) rfl rfl (Nat.le_of_ble_eq_true rfl) (Nat.le_of_ble_eq_true rfl) (by omega) (by omega) (by omega) (r_atv hb (x3 _ (by omega)) ha (by omega) _ ⟨_, rfl, ?_⟩)
    repeat first | refine z_i rfl rfl ?_ | refine m_gt hb rfl rfl ?_
    refine z_cVk [.int (nI c), .int (nI i)] [.int (p_at xs i)] 0 0 0 rfl (m_obj hb) rfl rfl (Nat.le_of_ble_eq_true rfl) (Nat.le_of_ble_eq_true rfl) (by omega) (by omega) (by omega) (r_atv hb (y3 _ (by omega)) hc (by omega) _ ⟨_, rfl, ?_⟩)
    unfold p_eqL at hQ
    refine z_b rfl rfl (fun h1 => ?_) (fun h1 => ?_)
    · replace h1 : p_at xs i = p_at ys i := h1
      rw [if_pos h1] at hQ
      refine z_i rfl rfl ?_
      refine z_j rfl ?_
      have := ih (i + 1) (by omega) hQ
      rw [← nI_1] at this
      exact this
    · replace h1 : ¬ p_at xs i = p_at ys i := h1
      rw [if_neg h1] at hQ
      refine z_i rfl rfl ?_
      exact z_retZ rfl (Or.inl rfl) (Nat.zero_le _) (Nat.zero_le _) hQ
theorem VR_j {a : Nat} {v : aV} (ha : a < 1000) (h : VR P mk n q S (nI a) v) : VC P mk n S a v ∧ a ≠ q := by
  obtain ⟨j, h1, h2, h3, h4, h5⟩ := h
  rw [nI_eq (by omega) (by omega)] at h1
  subst h1
  exact ⟨h5, h3⟩
theorem r_sameR (hb : mB b) (hd : 1 ≤ d) {a c : Nat} {u v : aV} (ha : a < 1000) (hc : c < 1000) (hA : VR P mk n q S (nI a) u) (hC : VR P mk n q S (nI c) v) (hQ : Q (.inl (some (.int (e_sam u v)))) (mw dA b w S) 0 0) : zx dA d 0 0 M_VectorLanguageModel_same 0 (zargs 4 [.ref (b 0), .int (nI a), .int (nI c)]) [] (mw dA b w S) 0 0 Q := by
  obtain ⟨hA, _⟩ := VR_j ha hA
  obtain ⟨hC, _⟩ := VR_j hc hC
  have hne : ∀ {k : Nat}, k ≤ 16 → ¬ nI k = -1 := fun hk => nI_n1 (by omega)
  cases u with
  | inl xs =>
    obtain ⟨x1, x2, x3⟩ := hA
    have hx16 := x2.1
    repeat first | refine z_i rfl rfl ?_ | refine m_gt hb rfl rfl ?_
    refine m_ldv hb (j := a) rfl rfl rfl ha x1 ?_
    repeat first | refine z_i rfl rfl ?_ | refine m_gt hb rfl rfl ?_
    cases v with
    | inl ys =>
      obtain ⟨y1, y2, y3⟩ := hC
      have hy16 := y2.1
      refine m_ldv hb (j := c) rfl rfl rfl hc y1 ?_
      replace hQ : Q (.inl (some (.int (if xs.length = ys.length then p_eqL (p_at xs) (p_at ys) xs.length 0 else 0)))) (mw dA b w S) 0 0 := hQ
      refine z_b rfl rfl (fun h1 => ?_) (fun h1 => ?_)
      · replace h1 : nI xs.length = nI ys.length := h1
        rw [nI_eq (by omega) (by omega)] at h1
        rw [if_pos h1] at hQ
        repeat first | refine z_i rfl rfl ?_ | refine m_gt hb rfl rfl ?_
        refine m_ldv hb (j := a) rfl rfl rfl ha x1 ?_
        refine z_bt rfl rfl (nI_pos' (by omega)) ?_
        refine z_i rfl rfl ?_
        refine z_i rfl rfl ?_
        exact r_sameR_loop hb hd ha hc x1 hx16 h1 x3 y3 xs.length 0 (by omega) hQ
      · replace h1 : ¬ nI xs.length = nI ys.length := h1
        rw [nI_eq (by omega) (by omega)] at h1
        rw [if_neg h1] at hQ
        repeat first | refine z_i rfl rfl ?_ | refine m_gt hb rfl rfl ?_
        exact z_retZ rfl (Or.inl rfl) (Nat.zero_le _) (Nat.zero_le _) hQ
    | inr g =>
      refine m_ldv hb (j := c) rfl rfl rfl hc hC.1 ?_
      refine z_bf rfl rfl (hne hx16) ?_
      repeat first | refine z_i rfl rfl ?_ | refine m_gt hb rfl rfl ?_
      exact z_retZ rfl (Or.inl rfl) (Nat.zero_le _) (Nat.zero_le _) hQ
  | inr f =>
    repeat first | refine z_i rfl rfl ?_ | refine m_gt hb rfl rfl ?_
    refine m_ldv hb (j := a) rfl rfl rfl ha hA.1 ?_
    repeat first | refine z_i rfl rfl ?_ | refine m_gt hb rfl rfl ?_
    cases v with
    | inl ys =>
      obtain ⟨y1, y2, y3⟩ := hC
      have hy16 := y2.1
      refine m_ldv hb (j := c) rfl rfl rfl hc y1 ?_
      refine z_bf rfl rfl (fun q => hne hy16 q.symm) ?_
      repeat first | refine z_i rfl rfl ?_ | refine m_gt hb rfl rfl ?_
      exact z_retZ rfl (Or.inl rfl) (Nat.zero_le _) (Nat.zero_le _) hQ
    | inr g =>
      refine m_ldv hb (j := c) rfl rfl rfl hc hC.1 ?_
      refine z_bt rfl rfl rfl ?_
      repeat first | refine z_i rfl rfl ?_ | refine m_gt hb rfl rfl ?_
      refine m_ldv hb (j := a) rfl rfl rfl ha hA.1 ?_
      refine z_bf rfl rfl (by decide) ?_
      repeat first | refine z_i rfl rfl ?_ | refine m_gt hb rfl rfl ?_
      refine m_lld hb (j := 8 * a + 2) rfl (by show nI 8 * nI a + nI 2 = _; rw [pk_mul, nI_add]) (by omega) ?_
      repeat first | refine z_i rfl rfl ?_ | refine m_gt hb rfl rfl ?_
      refine m_lld hb (j := 8 * c + 2) rfl (by show nI 8 * nI c + nI 2 = _; rw [pk_mul, nI_add]) (by omega) ?_
      repeat first | refine z_i rfl rfl ?_ | refine m_gt hb rfl rfl ?_
      obtain ⟨-, -, -, f4, -, -, -, f8⟩ := hA
      obtain ⟨-, -, -, g4, -, -, -, g8⟩ := hC
      replace hQ : Q (.inl (some (.int (if f.2.2 = g.2.2 then 1 else 0)))) (mw dA b w S) 0 0 := hQ
      refine z_b rfl rfl (fun h1 => ?_) (fun h1 => ?_)
      · replace h1 : ¬ f.2.2 = g.2.2 := fun q => h1 ((lg_cmp_eq _ _).mpr (by rw [f4, g4, q]))
        rw [if_neg h1] at hQ
        repeat first | refine z_i rfl rfl ?_ | refine m_gt hb rfl rfl ?_
        exact z_retZ rfl (Or.inl rfl) (Nat.zero_le _) (Nat.zero_le _) hQ
      · replace h1 : f.2.2 = g.2.2 := by
          have := (lg_cmp_eq _ _).mp (Classical.not_not.mp h1)
          rw [f4, g4] at this
          exact (pk_lEQ (by omega) (by omega)).mp this
        rw [if_pos h1] at hQ
        repeat first | refine z_i rfl rfl ?_ | refine m_gt hb rfl rfl ?_
        refine z_j rfl ?_
        exact z_retZ rfl (Or.inr rfl) (Nat.zero_le _) (Nat.zero_le _) hQ
end MV
