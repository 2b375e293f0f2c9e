/-! the reference's vectors: range, indexes -/
section MX
variable {dA : Nat → ClassId} {b : Nat → Nat} {w : ww_W} {S S' : mm} {d : Nat} {Q : zQ} {P : aP} {mk B n q : Nat} {res : rP} {F : List fF} {x : Option aV} {s : aS} {y : Int32}
theorem r_rangeR_loop (hb : mB b) (hd : 1 ≤ d) {c : Nat} {u v : Int32} {o1 o2 : Option Value} (hc : c ≤ 15) (hg : ∀ j : Nat, j < c + 1 → okI (p_rg u v j)) (he : u = v → c = 0)
    (hQ : OV dA b w P mk B res S F x s (.inl (vg (c + 1) (p_rg u v))) Q) : ∀ (r i : Nat) (S' : mm), i + r = c + 1 → BS P mk B res S F x s q (c + 1) i (p_rg u v) S' →
    zx dA d 0 0 M_VectorLanguageModel_range 106 [some (.ref (b 0)), o1, o2, some (.int u), some (.int v), some (.int (nI c)), some (.int (nI q)), some (.int (nI i))] [] (mw dA b w S') 0 0 Q := by
  intro r
  induction r with
  | zero =>
    intro i S' hi h
    refine z_i rfl rfl ?_
    refine z_i rfl rfl ?_
    refine z_bt rfl rfl (nI_lt (by omega) (by omega)) ?_
    refine z_i rfl rfl ?_
    refine z_retI rfl (Nat.zero_le _) (Nat.zero_le _) ?_
    have hi' : i = c + 1 := by omega
    rw [hi'] at h
    exact BS_end h (by omega) hg hQ
  | succ r ih =>
    intro i S' hi h
    have hq := h.2.1
    have hset : ∀ e : Int32, e = p_rg u v i → zx dA d 0 0 M_VectorLanguageModel_range 135 [some (.ref (b 0)), o1, o2, some (.int u), some (.int v), some (.int (nI c)), some (.int (nI q)), some (.int (nI i))] [.int e, .int (nI i), .int (nI q), .ref (b 0)] (mw dA b w S') 0 0 Q := by
      intro e he
      refine z_cVk [.int (nI q), .int (nI i), .int e] [] 0 0 0 rfl (m_obj hb) rfl rfl (Nat.le_of_ble_eq_true rfl) (Nat.le_of_ble_eq_true rfl) (by omega) (by omega) (by omega) (r_set hb hq (by omega) ⟨_, rfl, ?_⟩)
      refine z_i rfl rfl ?_
      refine z_j rfl ?_
      have := ih (i + 1) _ (by omega) (BS_next h (by omega) he)
      rw [← nI_1] at this
      exact this
    refine z_i rfl rfl ?_
    refine z_i rfl rfl ?_
    refine z_bf rfl rfl (nI_nlt (by omega) (by omega)) ?_
    repeat first | refine z_i rfl rfl ?_ | refine m_gt hb rfl rfl ?_
    refine z_b rfl rfl (fun h1 => ?_) (fun h1 => ?_)
    · replace h1 : v ≤ u := h1
      refine z_i rfl rfl ?_
      refine z_i rfl rfl ?_
      refine z_i rfl rfl ?_
      refine hset _ ?_
      unfold p_rg
      split
      · rfl
      · rename_i h2
        have h3 : u = v := Int32.toInt_inj.mp (by rw [Int32.le_iff_toInt_le] at h1; rw [Int32.lt_iff_toInt_lt] at h2; omega)
        have h4 : i = 0 := by have := he h3; omega
        rw [h4]
        show u - 0 = u + 0
        rw [Int32.sub_zero, Int32.add_zero]
    · replace h1 : ¬ v ≤ u := h1
      refine z_i rfl rfl ?_
      refine z_i rfl rfl ?_
      refine z_i rfl rfl ?_
      refine z_j rfl ?_
      refine hset _ ?_
      unfold p_rg
      rw [if_neg (fun q => h1 (Int32.le_of_lt q))]
theorem r_rangeR (hb : mB b) (hd : 3 ≤ d) {a c : Nat} {xs ys : List Int32} (h : MR P mk B res 1000 S F x s) (hA : RT P mk B res S F x s a (.inl xs)) (hC : RT P mk B res S F x s c (.inl ys))
    (hQ : OU dA b w P mk B res S F x s Q (e_rng (p_fst xs.length (p_at xs)) (p_fst ys.length (p_at ys)))) : zx dA d 0 0 M_VectorLanguageModel_range 0 (zargs 8 [.ref (b 0), .int (nI a), .int (nI c)]) [] (mw dA b w S) 0 0 Q := by
  have ha := hA.1
  have hc := hC.1
  obtain ⟨x1, x2, x3, x4⟩ := VR_inl hA.1 (RT_0 h hA)
  obtain ⟨y1, y2, y3, y4⟩ := VR_inl hC.1 (RT_0 h hC)
  have hx16 := x2.1
  have hy16 := y2.1
  have hfail : p_fst xs.length (p_at xs) = pNA ∨ p_fst ys.length (p_at ys) = pNA → zx dA d 0 0 M_VectorLanguageModel_range 40 (zargs 8 [.ref (b 0), .int (nI a), .int (nI c)]) [] (mw dA b w S) 0 0 Q := by
    intro hh
    unfold e_rng at hQ
    rw [if_pos hh] at hQ
    repeat first | refine z_i rfl rfl ?_ | refine m_gt hb rfl rfl ?_
    refine z_cVk [.int 5] [] 0 0 0 rfl (m_obj hb) rfl rfl (Nat.le_of_ble_eq_true rfl) (Nat.le_of_ble_eq_true rfl) (by omega) (by omega) (by omega) (r_failed hb ⟨_, rfl, ?_⟩)
    exact z_retI rfl (Nat.zero_le _) (Nat.zero_le _) (hQ _ (MR_err h 5))
  repeat first | refine z_i rfl rfl ?_ | refine m_gt hb rfl rfl ?_
  refine m_ldv hb (j := a) rfl rfl rfl ha x1 ?_
  refine z_b rfl rfl (fun h1 => hfail (Or.inl ?_)) (fun h1 => ?_)
  · unfold p_fst
    rw [if_pos ((nI_z (by omega)).mp h1)]
  have hx0 : ¬ xs.length = 0 := fun q => h1 (by rw [q]; rfl)
  have ex : p_fst xs.length (p_at xs) = p_at xs 0 := by unfold p_fst; rw [if_neg hx0]
  repeat first | refine z_i rfl rfl ?_ | refine m_gt hb rfl rfl ?_
  refine m_ldv hb (j := c) rfl rfl rfl hc y1 ?_
  refine z_b rfl rfl (fun h2 => hfail (Or.inr ?_)) (fun h2 => ?_)
  · unfold p_fst
    rw [if_pos ((nI_z (by omega)).mp h2)]
  have hy0 : ¬ ys.length = 0 := fun q => h2 (by rw [q]; rfl)
  have ey : p_fst ys.length (p_at ys) = p_at ys 0 := by unfold p_fst; rw [if_neg hy0]
  rw [ex, ey] at hQ hfail
  repeat first | refine z_i rfl rfl ?_ | refine m_gt hb rfl rfl ?_
  refine z_cVk [.int (nI a), .int (nI 0)] [] 0 0 0 rfl (m_obj hb) rfl rfl (Nat.le_of_ble_eq_true rfl) (Nat.le_of_ble_eq_true rfl) (by omega) (by omega) (by omega) (r_atv hb (x3 0 (by omega)) ha (by omega) _ ⟨_, rfl, ?_⟩)
  repeat first | refine z_i rfl rfl ?_ | refine m_gt hb rfl rfl ?_
  refine z_b rfl rfl (fun h3 => hfail (Or.inl h3)) (fun h3 => ?_)
  replace h3 : ¬ p_at xs 0 = pNA := h3
  repeat first | refine z_i rfl rfl ?_ | refine m_gt hb rfl rfl ?_
  refine z_cVk [.int (nI c), .int (nI 0)] [] 0 0 0 rfl (m_obj hb) rfl rfl (Nat.le_of_ble_eq_true rfl) (Nat.le_of_ble_eq_true rfl) (by omega) (by omega) (by omega) (r_atv hb (y3 0 (by omega)) hc (by omega) _ ⟨_, rfl, ?_⟩)
  repeat first | refine z_i rfl rfl ?_ | refine m_gt hb rfl rfl ?_
  refine z_b rfl rfl (fun h4 => ?_) (fun h4 => hfail (Or.inr (Classical.not_not.mp h4)))
  replace h4 : ¬ p_at ys 0 = pNA := h4
  have hox := x2.2 0 (by omega)
  have hoy := y2.2 0 (by omega)
  repeat first | refine z_i rfl rfl ?_ | refine m_gt hb rfl rfl ?_
  refine z_cVk [.int (nI a), .int (nI 0)] [] 0 0 0 rfl (m_obj hb) rfl rfl (Nat.le_of_ble_eq_true rfl) (Nat.le_of_ble_eq_true rfl) (by omega) (by omega) (by omega) (r_atv hb (x3 0 (by omega)) ha (by omega) _ ⟨_, rfl, ?_⟩)
  repeat first | refine z_i rfl rfl ?_ | refine m_gt hb rfl rfl ?_
  refine z_cVk [.int (nI c), .int (nI 0)] [] 0 0 0 rfl (m_obj hb) rfl rfl (Nat.le_of_ble_eq_true rfl) (Nat.le_of_ble_eq_true rfl) (by omega) (by omega) (by omega) (r_atv hb (y3 0 (by omega)) hc (by omega) _ ⟨_, rfl, ?_⟩)
  generalize p_at xs 0 = u at *
  generalize p_at ys 0 = v at *
  obtain ⟨k1, k2⟩ := abs_v hox hoy h3 h4
  have hu := okI_b hox h3
  have hv := okI_b hoy h4
  have habs : p_abs (v - u) = nI (v.toInt - u.toInt).natAbs := Int32.toInt_inj.mp (by rw [k1, nI_toInt (by omega)])
  generalize hcc : (v.toInt - u.toInt).natAbs = m at *
  unfold e_rng at hQ
  rw [if_neg (fun q => q.elim h3 h4), habs] at hQ
  have hgo : zx dA d 0 0 M_VectorLanguageModel_range 78 [some (.ref (b 0)), some (.int (nI a)), some (.int (nI c)), some (.int u), some (.int v), none, none, none] [.int (nI m)] (mw dA b w S) 0 0 Q := by
    repeat first | refine z_i rfl rfl ?_ | refine m_gt hb rfl rfl ?_
    refine z_b rfl rfl (fun h5 => ?_) (fun h5 => ?_)
    · replace h5 : nI m ≤ nI 15 := h5
      rw [nI_leI (by omega) (by omega)] at h5
      rw [if_pos (show nI m < 16 from nI_lt (b := 16) (by omega) (by omega)), show tN (nI m) = m from nI_clamp (by omega)] at hQ
      repeat first | refine z_i rfl rfl ?_ | refine m_gt hb rfl rfl ?_
      dsimp only
      rw [nI_1]
      refine z_cVk [.int (nI (m + 1))] [] 2 0 0 rfl (m_obj hb) rfl rfl (Nat.le_of_ble_eq_true rfl) (Nat.le_of_ble_eq_true rfl) (by omega) (by omega) (by omega) (r_freshB (g := p_rg u v) hb (by omega) h (fun S1 q h6 => ⟨_, rfl, ?_⟩))
      refine z_i rfl rfl ?_
      refine z_i rfl rfl ?_
      refine z_i rfl rfl ?_
      exact r_rangeR_loop (d := d) hb (by omega) h5 (okI_rg hox hoy h3 h4 habs (by omega)) (fun e => by rw [← hcc, e]; omega) hQ (m + 1) 0 S1 (by omega) h6
    · replace h5 : ¬ nI m ≤ nI 15 := h5
      rw [nI_leI (by omega) (by omega)] at h5
      rw [if_neg (show ¬ nI m < 16 from nI_nlt (b := 16) (by omega) (by omega))] at hQ
      repeat first | refine z_i rfl rfl ?_ | refine m_gt hb rfl rfl ?_
      refine z_cVk [.int 1] [] 0 0 0 rfl (m_obj hb) rfl rfl (Nat.le_of_ble_eq_true rfl) (Nat.le_of_ble_eq_true rfl) (by omega) (by omega) (by omega) (r_failed hb ⟨_, rfl, ?_⟩)
      exact z_retI rfl (Nat.zero_le _) (Nat.zero_le _) (hQ _ (MR_err h 1))
  repeat first | refine z_i rfl rfl ?_ | refine m_gt hb rfl rfl ?_
  refine z_b rfl rfl (fun h5 => ?_) (fun h5 => ?_)
  · replace h5 : v ≤ u := h5
    rw [Int32.le_iff_toInt_le] at h5
    refine z_i rfl rfl ?_
    refine z_i rfl rfl ?_
    refine z_i rfl rfl ?_
    have e : u - v = nI m := Int32.toInt_inj.mp (by rw [i32_sub (by omega) (by omega), nI_toInt (by omega)]; omega)
    dsimp only
    rw [e]
    exact hgo
  · replace h5 : ¬ v ≤ u := h5
    rw [Int32.le_iff_toInt_le] at h5
    refine z_i rfl rfl ?_
    refine z_i rfl rfl ?_
    refine z_i rfl rfl ?_
    refine z_j rfl ?_
    have e : v - u = nI m := Int32.toInt_inj.mp (by rw [i32_sub (by omega) (by omega), nI_toInt (by omega)]; omega)
    dsimp only
    rw [e]
    exact hgo
/-- what told tells of an index -/
def tl (p : Int32) : Int32 := if p = pNA then 0 else if 1000 ≤ p then 1000 else p + 1
def okP (p : Int32) : Prop := p = pNA ∨ (0 ≤ p.toInt ∧ p.toInt < 1000000000)
def tR (T : Nat → Int32) (l : List Int32) : Prop := ∀ k : Nat, k < l.length → T k = tl (p_at l k) ∧ okP (p_at l k)
theorem tR_add {T : Nat → Int32} {l : List Int32} {e t : Int32} (h : tR T l) (ht : t = tl e) (he : okP e) : tR (upd T l.length t) (l ++ [e]) := by
  intro k hk
  by_cases h1 : k = l.length
  · subst h1
    rw [pk_us, show p_at (l ++ [e]) l.length = e by simp [p_at]]
    exact ⟨ht, he⟩
  · have h2 : k < l.length := by simp at hk; omega
    rw [pk_un h1, show p_at (l ++ [e]) k = p_at l k by simp [p_at, List.getElem?_append_left h2]]
    exact h k h2
def jT (S : mm) (T : Nat → Int32) : mm := (S.1, S.2.1, S.2.2.1, va_up S.2.2.2 32 T)
theorem jT_A {T : Nat → Int32} {j : Nat} {t : Int32} : jA (jT S T) 32 j t = jT S (upd T j t) := by
  show (S.1, S.2.1, S.2.2.1, va_up (va_up S.2.2.2 32 T) 32 (upd (va_up S.2.2.2 32 T 32) j t)) = _
  rw [va_up_self, bx_uu]
  rfl
theorem jT_self : jT S (S.2.2.2 32) = S := by
  have : va_up S.2.2.2 32 (S.2.2.2 32) = S.2.2.2 := by
    funext k
    by_cases h : k = 32
    · subst h; exact va_up_self _ _ _
    · exact va_up_ne _ _ h
  show (S.1, S.2.1, S.2.2.1, va_up S.2.2.2 32 (S.2.2.2 32)) = S
  rw [this]
theorem MR_jT {T : Nat → Int32} (h : MR P mk B res q S F x s) : MR P mk B res q (jT S T) F x s := MR_all h (fun k _ _ a3 => va_up_ne _ _ a3) kpI_refl h.2.2.1.1 (fun _ _ hv => hv)
theorem p_loL_1 {f : Nat → Int32} {p : Int32} : ∀ (r i : Nat), p_loL f p r i 1 = 1
  | 0, _ => rfl
  | r + 1, i => by
    show p_loL f p r (i + 1) (if (1 : Int32) = 0 then _ else 1) = 1
    rw [if_neg (by decide)]
    exact p_loL_1 r (i + 1)
theorem neg_1 {j : Nat} (hj : j ≤ 16) : -(nI (j + 1)) = -1 - nI j := Int32.toInt_inj.mp (by
  rw [Int32.toInt_neg, nI_toInt (by omega), i32_sub (by rw [nI_toInt (by omega), show (-1 : Int32).toInt = -1 by decide]; omega) (by rw [nI_toInt (by omega), show (-1 : Int32).toInt = -1 by decide]; omega), nI_toInt (by omega), show (-1 : Int32).toInt = -1 by decide, bm32 (by omega) (by omega)]
  omega)
theorem r_leaves_loop (hb : mB b) (hd : 1 ≤ d) {a j : Nat} {xs : List Int32} (ha : a < 1000) (x1 : S.2.2.2 7 a = nI xs.length) (hx16 : xs.length ≤ 16) (x3 : ∀ k : Nat, k < xs.length → atS S.2.2.1 a k = p_at xs k) {je : Int32} (hje : je = nI (j + 1)) (hj : j ≤ 16) : ∀ (r i : Nat), i + r = xs.length → Q (.inl (some (.int (p_loL (p_at xs) (nI j) r i 0)))) (mw dA b w S) 0 0 →
    zx dA d 0 0 M_VectorLanguageModel_leaves 2 [some (.ref (b 0)), some (.int (nI a)), some (.int je), some (.int (nI i))] [] (mw dA b w S) 0 0 Q := by
  intro r
  induction r with
  | zero =>
    intro i hi hQ
    repeat first | refine z_i rfl rfl ?_ | refine m_gt hb rfl rfl ?_
    refine m_ldv hb (j := a) rfl rfl rfl ha x1 ?_
    refine z_bt rfl rfl (nI_le (by omega) (by omega)) ?_
    refine z_i rfl rfl ?_
    exact z_retZ rfl (Or.inl rfl) (Nat.zero_le _) (Nat.zero_le _) hQ
  | succ r ih =>
    intro i hi hQ
    replace hQ : Q (.inl (some (.int (p_loL (p_at xs) (nI j) r (i + 1) (if (0 : Int32) = 0 then (if p_at xs i = -1 - nI j then 1 else 0) else 1))))) (mw dA b w S) 0 0 := hQ
    rw [if_pos rfl] at hQ
    repeat first | refine z_i rfl rfl ?_ | refine m_gt hb rfl rfl ?_
    refine m_ldv hb (j := a) rfl rfl rfl ha x1 ?_
    refine z_bf rfl rfl (nI_ge (by omega) (by omega)) ?_
    repeat first | refine z_i rfl rfl ?_ | refine m_gt hb rfl rfl ?_
    refine z_cVk [.int (nI a), .int (nI i)] [] 0 0 0 rfl (m_obj hb) rfl rfl (Nat.le_of_ble_eq_true rfl) (Nat.le_of_ble_eq_true rfl) (by omega) (by omega) (by omega) (r_atv hb (x3 _ (by omega)) ha (by omega) _ ⟨_, rfl, ?_⟩)
    repeat first | refine z_i rfl rfl ?_ | refine m_gt hb rfl rfl ?_
    refine z_b rfl rfl (fun h1 => ?_) (fun h1 => ?_)
    · replace h1 : ¬ p_at xs i = -je := h1
      rw [hje, neg_1 hj] at h1
      rw [if_neg h1] at hQ
      refine z_i rfl rfl ?_
      refine z_j rfl ?_
      have := ih (i + 1) (by omega) hQ
      rw [← nI_1] at this
      exact this
    · replace h1 : p_at xs i = -je := Classical.not_not.mp h1
      rw [hje, neg_1 hj] at h1
      rw [if_pos h1, p_loL_1] at hQ
      refine z_i rfl rfl ?_
      exact z_retZ rfl (Or.inr rfl) (Nat.zero_le _) (Nat.zero_le _) hQ
end MX
