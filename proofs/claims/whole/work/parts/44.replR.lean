/-! the reference's replaced -/
section MZ2
variable {dA : Nat → ClassId} {b : Nat → Nat} {w : ww_W} {S S' : mm} {d : Nat} {Q : zQ} {P : aP} {mk B n q : Nat} {res : rP} {F : List fF} {x : Option aV} {s : aS} {y : Int32}
/-- how far the indexes from j on reach, from t on -/
def mst (l : List Int32) : Nat → Nat → Int32 → Int32
  | 0, _, t => t
  | r + 1, j, t => mst l r (j + 1) (if tl (p_at l j) ≤ t then t else tl (p_at l j))
def hasNA (l : List Int32) : Nat → Nat → Prop
  | 0, _ => False
  | r + 1, j => p_at l j = pNA ∨ hasNA l r (j + 1)
theorem hasNA_no {l : List Int32} (h : ∀ k : Nat, k < l.length → ¬ p_at l k = pNA) : ∀ (r j : Nat), j + r ≤ l.length → ¬ hasNA l r j
  | 0, _, _ => id
  | r + 1, j, hj => fun q => q.elim (h j (by omega)) (hasNA_no h r (j + 1) (by omega))
theorem hasNA_yes {l : List Int32} {k : Nat} (h : p_at l k = pNA) : ∀ (r j : Nat), j ≤ k → k < j + r → hasNA l r j
  | 0, j, h1, h2 => by omega
  | r + 1, j, h1, h2 => by
    by_cases hk : k = j
    · subst hk; exact Or.inl h
    · exact Or.inr (hasNA_yes h r (j + 1) (by omega) (by omega))
theorem r_rpR1 (hb : mB b) {a c e : Nat} {l : List Int32} {T : Nat → Int32} (hl : l.length ≤ 16) (hT : tR T l) : ∀ (r i : Nat) (t E : Int32) (o7 : Option Value), i + r = l.length →
    (∀ (E' : Int32) (o6 o7 : Option Value), (E' = E ∧ ¬ hasNA l r i ∨ E' = 8 ∧ hasNA l r i) → zx dA d 0 0 M_VectorLanguageModel_replaced 81 [some (.ref (b 0)), some (.int (nI a)), some (.int (nI c)), some (.int (nI e)), some (.int (nI l.length)), some (.int (mst l r i t)), o6, o7] [] (mw dA b w (jI (jT S T) 29 E')) 0 0 Q) →
    zx dA d 0 0 M_VectorLanguageModel_replaced 31 [some (.ref (b 0)), some (.int (nI a)), some (.int (nI c)), some (.int (nI e)), some (.int (nI l.length)), some (.int t), some (.int (nI i)), o7] [] (mw dA b w (jI (jT S T) 29 E)) 0 0 Q := by
  intro r
  induction r with
  | zero =>
    intro i t E o7 hi hQ
    refine z_i rfl rfl ?_
    refine z_i rfl rfl ?_
    refine z_bt rfl rfl (nI_le (by omega) (by omega)) ?_
    exact hQ E _ _ (Or.inl ⟨rfl, id⟩)
  | succ r ih =>
    intro i t E o7 hi hQ
    have ht : T i = tl (p_at l i) := (hT i (by omega)).1
    have hgo : ∀ E1 : Int32, (E1 = E ∧ ¬ p_at l i = pNA ∨ E1 = 8 ∧ p_at l i = pNA) → zx dA d 0 0 M_VectorLanguageModel_replaced 54 [some (.ref (b 0)), some (.int (nI a)), some (.int (nI c)), some (.int (nI e)), some (.int (nI l.length)), some (.int t), some (.int (nI i)), o7] [] (mw dA b w (jI (jT S T) 29 E1)) 0 0 Q := by
      intro E1 hE1
      have hih : ∀ t' : Int32, t' = (if tl (p_at l i) ≤ t then t else tl (p_at l i)) → zx dA d 0 0 M_VectorLanguageModel_replaced 31 [some (.ref (b 0)), some (.int (nI a)), some (.int (nI c)), some (.int (nI e)), some (.int (nI l.length)), some (.int t'), some (.int (nI i + 1)), o7] [] (mw dA b w (jI (jT S T) 29 E1)) 0 0 Q := by
        intro t' ht'
        have := ih (i + 1) t' E1 o7 (by omega) (fun E' o6 o7 hE' => by
          rw [ht']
          refine hQ E' o6 o7 ?_
          rcases hE' with ⟨g1, g2⟩ | ⟨g1, g2⟩
          · rcases hE1 with ⟨k1, k2⟩ | ⟨k1, k2⟩
            · exact Or.inl ⟨g1.trans k1, fun q => q.elim k2 g2⟩
            · exact Or.inr ⟨g1.trans k1, Or.inl k2⟩
          · exact Or.inr ⟨g1, Or.inr g2⟩)
        rw [← nI_1] at this
        exact this
      repeat first | refine z_i rfl rfl ?_ | refine m_gt hb rfl rfl ?_
      refine m_ldv hb (S := jI (jT S T) 29 E1) (j := i) rfl rfl rfl (show i < 16 by omega) ht ?_
      repeat first | refine z_i rfl rfl ?_ | refine m_gt hb rfl rfl ?_
      refine z_b rfl rfl (fun h1 => ?_) (fun h1 => ?_)
      · replace h1 : tl (p_at l i) ≤ t := h1
        refine z_i rfl rfl ?_
        refine z_j rfl ?_
        exact hih _ (by rw [if_pos h1])
      · replace h1 : ¬ tl (p_at l i) ≤ t := h1
        repeat first | refine z_i rfl rfl ?_ | refine m_gt hb rfl rfl ?_
        refine m_ldv hb (S := jI (jT S T) 29 E1) (j := i) rfl rfl rfl (show i < 16 by omega) ht ?_
        refine z_i rfl rfl ?_
        refine z_i rfl rfl ?_
        refine z_j rfl ?_
        exact hih _ (by rw [if_neg h1])
    have h0 : tl (p_at l i) = 0 ↔ p_at l i = pNA := by
      constructor
      · intro q
        refine Classical.byContradiction fun hn => ?_
        obtain ⟨j, hj, hj2⟩ := okP_nI2 (hT i (by omega)).2 hn
        rw [hj2, tl_big hj] at q
        exact nI_ne0 (by omega) (by omega) q
      · intro q; rw [q]; rfl
    refine z_i rfl rfl ?_
    refine z_i rfl rfl ?_
    refine z_bf rfl rfl (nI_ge (by omega) (by omega)) ?_
    repeat first | refine z_i rfl rfl ?_ | refine m_gt hb rfl rfl ?_
    refine m_ldv hb (S := jI (jT S T) 29 E) (j := i) rfl rfl rfl (show i < 16 by omega) ht ?_
    refine z_b rfl rfl (fun h1 => ?_) (fun h1 => ?_)
    · exact hgo E (Or.inl ⟨rfl, fun q => h1 (h0.mpr q)⟩)
    · repeat first | refine z_i rfl rfl ?_ | refine m_gt hb rfl rfl ?_
      refine m_pt hb rfl rfl ?_
      rw [jI_I]
      exact hgo 8 (Or.inr ⟨rfl, h0.mp (Classical.not_not.mp h1)⟩)
/-- the reach by the reference and by the class -/
theorem mst_re {l : List Int32} (hp : ∀ k : Nat, k < l.length → okP (p_at l k) ∧ ¬ p_at l k = pNA) {m : Nat} (hm : m ≤ 16) : ∀ (r j : Nat) (t z : Int32), j + r = l.length → 0 ≤ z.toInt → z.toInt ≤ 1000000001 → (m : Int) ≤ t.toInt → t.toInt ≤ 1000 → (t.toInt ≤ 16 ∨ max (m : Int) z.toInt ≤ 16 → t.toInt = max (m : Int) z.toInt) → 
    (∃ t' : Nat, t' ≤ 1000 ∧ m ≤ t' ∧ mst l r j t = nI t' ∧ ((t' ≤ 16 ↔ p_max (nI m) (p_reL l r j z) ≤ 16) ∧ (t' ≤ 16 → p_max (nI m) (p_reL l r j z) = nI t')) ∧ t.toInt ≤ t' ∧ ∀ k : Nat, j ≤ k → k < l.length → ∃ i : Nat, p_at l k = nI i ∧ tl (p_at l k) = nI (min (i + 1) 1000) ∧ min (i + 1) 1000 ≤ t') := by
  intro r
  induction r with
  | zero =>
    intro j t z hj hz hz2 h1 h2 h3
    have hp : (p_max (nI m) z).toInt = max (m : Int) z.toInt := by
      unfold p_max
      split
      · rename_i q
        rw [Int32.lt_iff_toInt_lt, nI_toInt (by omega)] at q
        omega
      · rename_i q
        rw [Int32.lt_iff_toInt_lt, nI_toInt (by omega)] at q
        rw [nI_toInt (by omega)]; omega
    refine ⟨t.toInt.toNat, by omega, by omega, Int32.toInt_inj.mp (by rw [nI_toInt (by omega)]; show t.toInt = _; omega), ⟨?_, fun q => ?_⟩, by omega, fun k k1 k2 => by omega⟩
    · show _ ↔ p_max (nI m) z ≤ 16
      rw [Int32.le_iff_toInt_le, hp, show (16 : Int32).toInt = 16 by decide]
      omega
    · exact Int32.toInt_inj.mp (by show (p_max (nI m) z).toInt = _; rw [hp, nI_toInt (by omega)]; omega)
  | succ r ih =>
    intro j t z hj hz hz2 h1 h2 h3
    obtain ⟨g1, g2⟩ := hp j (by omega)
    obtain ⟨i, hi, hi2⟩ := okP_nI2 g1 g2
    have e1 : (p_at l j + 1).toInt = i + 1 := by rw [hi2, nI_1, nI_toInt (by omega)]; omega
    have e2 : tl (p_at l j) = nI (min (i + 1) 1000) := by rw [hi2, tl_big hi]
    have e3 : (p_max z (p_at l j + 1)).toInt = max z.toInt (i + 1) := by
      unfold p_max
      split
      · rename_i q
        rw [Int32.lt_iff_toInt_lt, e1] at q
        rw [e1]; omega
      · rename_i q
        rw [Int32.lt_iff_toInt_lt, e1] at q
        omega
    have e4 : (if tl (p_at l j) ≤ t then t else tl (p_at l j)).toInt = max t.toInt (min (i + 1) 1000 : Nat) := by
      rw [e2]
      split
      · rename_i q
        rw [Int32.le_iff_toInt_le, nI_toInt (by omega)] at q
        omega
      · rename_i q
        rw [Int32.le_iff_toInt_le, nI_toInt (by omega)] at q
        rw [nI_toInt (by omega)]; omega
    obtain ⟨t', q1, q2, q3, q4, q5, q6⟩ := ih (j + 1) (if tl (p_at l j) ≤ t then t else tl (p_at l j)) (p_max z (p_at l j + 1)) (by omega) (by omega) (by omega) (by omega) (by omega) (by rw [e3, e4]; omega)
    refine ⟨t', q1, q2, q3, q4, by omega, fun k k1 k2 => ?_⟩
    by_cases hk : k = j
    · subst hk
      exact ⟨i, hi2, e2, by omega⟩
    · exact q6 k (by omega) k2
theorem r_rpR2 (hb : mB b) (hd : 1 ≤ d) {a c e m t : Nat} {xs : List Int32} (hA : RT P mk B res S F x s a (.inl xs)) (ht : t ≤ 16)
    (hQ : ∀ S' : mm, BS P mk B res S F x s q t t (p_old xs.length (p_at xs)) S' → ∀ o7 : Option Value, zx dA d 0 0 M_VectorLanguageModel_replaced 192 [some (.ref (b 0)), some (.int (nI a)), some (.int (nI c)), some (.int (nI e)), some (.int (nI m)), some (.int (nI t)), some (.int (nI q)), o7] [] (mw dA b w S') 0 0 Q) : ∀ (r i : Nat) (S' : mm), i + r = t → BS P mk B res S F x s q t i (p_old xs.length (p_at xs)) S' →
    zx dA d 0 0 M_VectorLanguageModel_replaced 148 [some (.ref (b 0)), some (.int (nI a)), some (.int (nI c)), some (.int (nI e)), some (.int (nI m)), some (.int (nI t)), some (.int (nI q)), some (.int (nI i))] [] (mw dA b w S') 0 0 Q := by
  intro r
  have ha := hA.1
  induction r with
  | zero =>
    intro i S' hi h
    refine z_i rfl rfl ?_
    refine z_i rfl rfl ?_
    refine z_bt rfl rfl (nI_le (by omega) (by omega)) ?_
    have hi' : i = t := by omega
    rw [hi'] at h
    exact hQ S' h _
  | succ r ih =>
    intro i S' hi h
    obtain ⟨x1, x2, x3, x4⟩ := VR_inl hA.1 (BS_rt h hA)
    have hx16 := x2.1
    have hq := h.2.1
    have hset : ∀ v : Int32, v = p_old xs.length (p_at xs) i → zx dA d 0 0 M_VectorLanguageModel_replaced 183 [some (.ref (b 0)), some (.int (nI a)), some (.int (nI c)), some (.int (nI e)), some (.int (nI m)), some (.int (nI t)), some (.int (nI q)), some (.int (nI i))] [.int v, .int (nI i), .int (nI q), .ref (b 0)] (mw dA b w S') 0 0 Q := by
      intro v he
      refine z_cVk [.int (nI q), .int (nI i), .int v] [] 0 0 0 rfl (m_obj hb) rfl rfl (Nat.le_of_ble_eq_true rfl) (Nat.le_of_ble_eq_true rfl) (by omega) (by omega) (by omega) (r_set hb hq (by omega) ⟨_, rfl, ?_⟩)
      refine z_i rfl rfl ?_
      refine z_j rfl ?_
      have := ih (i + 1) _ (by omega) (BS_next h (by omega) he)
      rw [← nI_1] at this
      exact this
    refine z_i rfl rfl ?_
    refine z_i rfl rfl ?_
    refine z_bf rfl rfl (nI_ge (by omega) (by omega)) ?_
    repeat first | refine z_i rfl rfl ?_ | refine m_gt hb rfl rfl ?_
    refine m_ldv hb (j := a) rfl rfl rfl ha x1 ?_
    refine z_b rfl rfl (fun h1 => ?_) (fun h1 => ?_)
    · replace h1 : nI xs.length ≤ nI i := h1
      rw [nI_leI (by omega) (by omega)] at h1
      refine z_i rfl rfl ?_
      exact hset _ (by unfold p_old; rw [if_neg (by omega)])
    · replace h1 : ¬ nI xs.length ≤ nI i := h1
      rw [nI_leI (by omega) (by omega)] at h1
      repeat first | refine z_i rfl rfl ?_ | refine m_gt hb rfl rfl ?_
      refine z_cVk [.int (nI a), .int (nI i)] [.int (nI i), .int (nI q), .ref (b 0)] 0 0 0 rfl (m_obj hb) rfl rfl (Nat.le_of_ble_eq_true rfl) (Nat.le_of_ble_eq_true rfl) (by omega) (by omega) (by omega) (r_atv hb (x3 _ (by omega)) ha (by omega) _ ⟨_, rfl, ?_⟩)
      refine z_j rfl ?_
      exact hset _ (by unfold p_old; rw [if_pos (by omega)])
theorem r_rpR3 (hb : mB b) (hd : 1 ≤ d) {a c e t : Nat} {zs l : List Int32} (hE : RT P mk B res S F x s e (.inl zs)) (hz0 : 0 < zs.length) (ht : t ≤ 16) (hl : l.length ≤ 16) (hT : tR (S.2.2.2 32) l) (hin : ∀ k : Nat, k < l.length → ∃ i : Nat, p_at l k = nI i ∧ tl (p_at l k) = nI (i + 1) ∧ i < t) : ∀ (r i : Nat) (S' : mm) (G : Nat → Int32), i + r = l.length → BS P mk B res S F x s q t t G S' → (∀ j : Nat, j < t → okI (G j)) →
    OV dA b w P mk B res S F x s (.inl (vg t (p_rpL l (p_at zs) zs.length r i G))) Q →
    zx dA d 0 0 M_VectorLanguageModel_replaced 195 [some (.ref (b 0)), some (.int (nI a)), some (.int (nI c)), some (.int (nI e)), some (.int (nI l.length)), some (.int (nI t)), some (.int (nI q)), some (.int (nI i))] [] (mw dA b w S') 0 0 Q := by
  intro r
  have he := hE.1
  induction r with
  | zero =>
    intro i S' G hi h hG hQ
    refine z_i rfl rfl ?_
    refine z_i rfl rfl ?_
    refine z_bt rfl rfl (nI_le (by omega) (by omega)) ?_
    refine z_i rfl rfl ?_
    exact z_retI rfl (Nat.zero_le _) (Nat.zero_le _) (BS_end h ht hG hQ)
  | succ r ih =>
    intro i S' G hi h hG hQ
    obtain ⟨z1, z2, z3, z4⟩ := VR_inl hE.1 (BS_rt h hE)
    have hz16 := z2.1
    have hq := h.2.1
    have hzm := Nat.mod_lt i hz0
    obtain ⟨p, p1, p2, p3⟩ := hin i (by omega)
    have htt : S'.2.2.2 32 i = nI (p + 1) := by rw [h.2.2.2.2.2.1 32 (by decide) (by decide), (hT i (by omega)).1, p2]
    refine z_i rfl rfl ?_
    refine z_i rfl rfl ?_
    refine z_bf rfl rfl (nI_ge (by omega) (by omega)) ?_
    repeat first | refine z_i rfl rfl ?_ | refine m_gt hb rfl rfl ?_
    refine m_ldv hb (j := i) rfl rfl rfl (show i < 16 by omega) htt ?_
    repeat first | refine z_i rfl rfl ?_ | refine m_gt hb rfl rfl ?_
    refine m_ldv hb (j := e) rfl rfl rfl he z1 ?_
    refine z_dv rfl (nI_ne0 hz0 (by omega)) ?_
    rw [pk_rem (by omega) hz0 (by omega)]
    refine z_cVk [.int (nI e), .int (nI (i % zs.length))] [.int (nI (p + 1) - 1), .int (nI q), .ref (b 0)] 0 0 0 rfl (m_obj hb) rfl rfl (Nat.le_of_ble_eq_true rfl) (Nat.le_of_ble_eq_true rfl) (by omega) (by omega) (by omega) (r_atv hb (z3 _ hzm) he (by omega) _ ⟨_, rfl, ?_⟩)
    rw [nI_pred]
    refine z_cVk [.int (nI q), .int (nI p), .int (p_at zs (i % zs.length))] [] 0 0 0 rfl (m_obj hb) rfl rfl (Nat.le_of_ble_eq_true rfl) (Nat.le_of_ble_eq_true rfl) (by omega) (by omega) (by omega) (r_set hb hq (by omega) ⟨_, rfl, ?_⟩)
    refine z_i rfl rfl ?_
    refine z_j rfl ?_
    have hcl : (p_at l i).toNatClampNeg = p := by rw [p1, nI_clamp (by omega)]
    have := ih (i + 1) _ (upd G p (p_at zs (i % zs.length))) (by omega) (BS_put (p := p) (e := p_at zs (i % zs.length)) (g' := upd G p (p_at zs (i % zs.length))) h (by omega) ht (fun j hj => by
      by_cases hjp : j = p
      · exact Or.inl ⟨hjp, by rw [hjp]; exact pk_us⟩
      · exact Or.inr ⟨hjp, hj, pk_un hjp⟩)) (fun j hj => by
      by_cases hjp : j = p
      · rw [hjp, pk_us]; exact z2.2 _ hzm
      · rw [pk_un hjp]; exact hG j hj) (by
      replace hQ : OV dA b w P mk B res S F x s (.inl (vg t (p_rpL l (p_at zs) zs.length r (i + 1) (upd G (p_at l i).toNatClampNeg (p_at zs (i % zs.length)))))) Q := hQ
      rw [hcl] at hQ
      exact hQ)
    rw [← nI_1] at this
    exact this
/-- an end: what e_rep says -/
def OW (dA : Nat → ClassId) (b : Nat → Nat) (w : ww_W) (P : aP) (mk B : Nat) (res : rP) (S : mm) (F : List fF) (x : Option aV) (s : aS) (Q : zQ) : Option (List Int32) ⊕ Int32 → Prop
  | .inl none => ∀ S' : mm, MR P mk B res 1000 S' F x s → kpA S S' → kpI S S' → Q (.inl (some (.int (-1)))) (mw dA b w S') 0 0
  | .inl (some l) => OV dA b w P mk B res S F x s (.inl l) Q
  | .inr e => ¬ e = 0 → ∀ S' : mm, MR P mk B res 1000 S' F x (uX s e) → Q (.inl (some (.int (-1)))) (mw dA b w S') 0 0
theorem r_replacedR (hb : mB b) (hd : 3 ≤ d) {a c e : Nat} {xs ys zs : List Int32} (h : MR P mk B res 1000 S F x s) (hs : sX s = 0) (hA : RT P mk B res S F x s a (.inl xs)) (hC : RT P mk B res S F x s c (.inl ys)) (hE : RT P mk B res S F x s e (.inl zs))
    (hQ : OW dA b w P mk B res S F x s Q (e_rep xs ys zs)) : zx dA d 0 0 M_VectorLanguageModel_replaced 0 (zargs 8 [.ref (b 0), .int (nI a), .int (nI c), .int (nI e)]) [] (mw dA b w S) 0 0 Q := by
  have ha := hA.1
  have hc := hC.1
  have he := hE.1
  obtain ⟨x1, x2, x3, x4⟩ := VR_inl hA.1 (RT_0 h hA)
  obtain ⟨y1, y2, y3, y4⟩ := VR_inl hC.1 (RT_0 h hC)
  obtain ⟨z1, z2, z3, z4⟩ := VR_inl hE.1 (RT_0 h hE)
  have hx16 := x2.1
  have hz16 := z2.1
  have h29 : S.1 29 = 0 := h.1.2.2.2.2.1.trans hs
  unfold e_rep at hQ
  repeat first | refine z_i rfl rfl ?_ | refine m_gt hb rfl rfl ?_
  refine m_ldv hb (j := a) rfl rfl rfl ha x1 ?_
  refine z_cVk [.int (nI c), .int (nI xs.length)] [] 2 0 0 rfl (m_obj hb) rfl rfl (Nat.le_of_ble_eq_true rfl) (Nat.le_of_ble_eq_true rfl) (by omega) (by omega) (by omega) (r_indexes hb (by omega) hc y1 y2 y3 hx16 (fun hf => ⟨_, rfl, ?_⟩) (fun l T hf hl hT => ⟨_, rfl, ?_⟩))
  · rw [find_no hf] at hQ
    repeat first | refine z_i rfl rfl ?_ | refine m_gt hb rfl rfl ?_
    refine z_bf rfl rfl (show ¬ (0 : Int32) ≤ -1 by decide) ?_
    repeat first | refine z_i rfl rfl ?_ | refine m_gt hb rfl rfl ?_
    exact z_retI rfl (Nat.zero_le _) (Nat.zero_le _) (hQ (by decide) _ (MR_err h 8))
  have h' := MR_jT (T := T) h
  have hS0 : jI (jT S T) 29 0 = jT S T := jI_self h29
  repeat first | refine z_i rfl rfl ?_ | refine m_gt hb rfl rfl ?_
  refine z_bt rfl rfl (nI_pos' (by omega)) ?_
  repeat first | refine z_i rfl rfl ?_ | refine m_gt hb rfl rfl ?_
  refine m_ldv hb (S := jT S T) (j := a) rfl rfl rfl ha x1 ?_
  refine z_i rfl rfl ?_
  refine z_i rfl rfl ?_
  refine z_i rfl rfl ?_
  have key := r_rpR1 (S := S) (d := d) (dA := dA) (w := w) (Q := Q) (a := a) (c := c) (e := e) hb hl hT l.length 0 (nI xs.length) 0 none (by omega) (fun E' o6 o7 hE' => ?_)
  · rw [hS0] at key
    exact key
  have hback : ∀ E2 : Int32, ¬ E2 = 0 → E' = E2 → (¬ E2 = 0 → ∀ S' : mm, MR P mk B res 1000 S' F x (uX s E2) → Q (.inl (some (.int (-1)))) (mw dA b w S') 0 0) → zx dA d 0 0 M_VectorLanguageModel_replaced 81 [some (.ref (b 0)), some (.int (nI a)), some (.int (nI c)), some (.int (nI e)), some (.int (nI l.length)), some (.int (mst l l.length 0 (nI xs.length))), o6, o7] [] (mw dA b w (jI (jT S T) 29 E')) 0 0 Q := by
    intro E2 g1 g2 g3
    subst g2
    repeat first | refine z_i rfl rfl ?_ | refine m_gt hb rfl rfl ?_
    refine z_bt rfl rfl g1 ?_
    repeat first | refine z_i rfl rfl ?_ | refine m_gt hb rfl rfl ?_
    exact z_retI rfl (Nat.zero_le _) (Nat.zero_le _) (g3 g1 _ (MR_err h' _))
  rcases find_na hx16 hf with ⟨f1, f2⟩ | ⟨f1, k0, f2, f3⟩
  · rw [f1] at hQ
    have hno := hasNA_no f2 l.length 0 (by omega)
    have hE0 : E' = 0 := by rcases hE' with g | g; exact g.1; exact absurd g.2 hno
    subst hE0
    rw [hS0]
    have h29' : (jT S T).1 29 = 0 := h29
    repeat first | refine z_i rfl rfl ?_ | refine m_gt hb rfl rfl ?_
    refine z_bf rfl rfl (fun q => q h29) ?_
    repeat first | refine z_i rfl rfl ?_ | refine m_gt hb rfl rfl ?_
    dsimp only at hQ
    refine z_b rfl rfl (fun g1 => ?_) (fun g1 => ?_)
    · have hl0 : ¬ l = [] := fun q => g1 (by rw [q]; rfl)
      have hl1 : 0 < l.length := List.length_pos_iff.mpr hl0
      rw [if_neg hl0] at hQ
      obtain ⟨t, t1, t2, t3, t4, t5, t6⟩ := mst_re (l := l) (fun k hk => ⟨(hT k hk).2, f2 k hk⟩) (m := xs.length) hx16 l.length 0 (nI xs.length) 0 (by omega) (by decide) (by decide) (by rw [nI_toInt (by omega)]; omega) (by rw [nI_toInt (by omega)]; omega) (by rw [nI_toInt (by omega), show (0 : Int32).toInt = 0 by decide]; omega)
      rw [t3]
      repeat first | refine z_i rfl rfl ?_ | refine m_gt hb rfl rfl ?_
      refine m_ldv hb (S := jT S T) (j := e) rfl rfl rfl he z1 ?_
      refine z_b rfl rfl (fun g2 => ?_) (fun g2 => ?_)
      · have hz0 : ¬ zs.length = 0 := fun q => g2 (by rw [q]; rfl)
        rw [if_neg hz0] at hQ
        repeat first | refine z_i rfl rfl ?_ | refine m_gt hb rfl rfl ?_
        refine z_bf rfl rfl (fun q => q h29) ?_
        repeat first | refine z_i rfl rfl ?_ | refine m_gt hb rfl rfl ?_
        refine z_b rfl rfl (fun g3 => ?_) (fun g3 => ?_)
        · replace g3 : nI t ≤ nI 16 := g3
          rw [nI_leI (by omega) (by omega)] at g3
          rw [if_pos (t4.1.mp g3), t4.2 g3, show tN (nI t) = t from nI_clamp (by omega)] at hQ
          repeat first | refine z_i rfl rfl ?_ | refine m_gt hb rfl rfl ?_
          refine z_bt rfl rfl h29 ?_
          repeat first | refine z_i rfl rfl ?_ | refine m_gt hb rfl rfl ?_
          refine z_cVk [.int (nI t)] [] 2 0 0 rfl (m_obj hb) rfl rfl (Nat.le_of_ble_eq_true rfl) (Nat.le_of_ble_eq_true rfl) (by omega) (by omega) (by omega) (r_freshB (g := p_old xs.length (p_at xs)) hb (by omega) h' (fun S1 q h3 => ⟨_, rfl, ?_⟩))
          refine z_i rfl rfl ?_
          refine z_i rfl rfl ?_
          refine z_i rfl rfl ?_
          refine r_rpR2 (S := jT S T) (d := d) hb (by omega) (RT_tr jT_kpA kpI_refl hA) g3 (fun S2 h4 o7 => ?_) t 0 S1 (by omega) h3
          refine z_i rfl rfl ?_
          refine z_i rfl rfl ?_
          refine r_rpR3 (S := jT S T) (d := d) hb (by omega) (RT_tr jT_kpA kpI_refl hE) (by omega) g3 hl hT (fun k hk => ?_) l.length 0 S2 _ (by omega) h4 (fun j hj => ?_) (OV_tr jT_kpA kpI_refl hQ)
          · obtain ⟨i, i1, i2, i3⟩ := t6 k (by omega) hk
            exact ⟨i, i1, by rw [i2]; congr 1; omega, by omega⟩
          · unfold p_old
            split
            · exact x2.2 j (by assumption)
            · exact Or.inl rfl
        · replace g3 : ¬ nI t ≤ nI 16 := g3
          rw [nI_leI (by omega) (by omega)] at g3
          rw [if_neg (fun q => g3 (t4.1.mpr q))] at hQ
          repeat first | refine z_i rfl rfl ?_ | refine m_gt hb rfl rfl ?_
          refine m_pt hb rfl rfl ?_
          repeat first | refine z_i rfl rfl ?_ | refine m_gt hb rfl rfl ?_
          refine z_bf rfl rfl (show ¬ (1 : Int32) = 0 by decide) ?_
          repeat first | refine z_i rfl rfl ?_ | refine m_gt hb rfl rfl ?_
          exact z_retI rfl (Nat.zero_le _) (Nat.zero_le _) (hQ (by decide) _ (MR_err h' 1))
      · have hz0 : zs.length = 0 := (nI_z (by omega)).mp (Classical.not_not.mp g2)
        rw [if_pos hz0] at hQ
        repeat first | refine z_i rfl rfl ?_ | refine m_gt hb rfl rfl ?_
        refine m_pt hb rfl rfl ?_
        repeat first | refine z_i rfl rfl ?_ | refine m_gt hb rfl rfl ?_
        refine z_bt rfl rfl (show ¬ (5 : Int32) = 0 by decide) ?_
        repeat first | refine z_i rfl rfl ?_ | refine m_gt hb rfl rfl ?_
        refine z_bf rfl rfl (show ¬ (5 : Int32) = 0 by decide) ?_
        repeat first | refine z_i rfl rfl ?_ | refine m_gt hb rfl rfl ?_
        exact z_retI rfl (Nat.zero_le _) (Nat.zero_le _) (hQ (by decide) _ (MR_err h' 5))
    · have hl0 : l.length = 0 := (nI_z (by omega)).mp (Classical.not_not.mp g1)
      rw [if_pos (List.length_eq_zero_iff.mp hl0)] at hQ
      repeat first | refine z_i rfl rfl ?_ | refine m_gt hb rfl rfl ?_
      exact z_retI rfl (Nat.zero_le _) (Nat.zero_le _) (hQ _ h' jT_kpA kpI_refl)
  · rw [f1] at hQ
    have hyes := hasNA_yes f3 l.length 0 (by omega) (by omega)
    have hE8 : E' = 8 := by rcases hE' with g | g; exact absurd hyes g.2; exact g.1
    exact hback 8 (by decide) hE8 hQ
end MZ2
