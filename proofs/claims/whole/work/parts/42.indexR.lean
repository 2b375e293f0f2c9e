/-! the reference's indexes, picked, replaced -/
section MY
variable {dA : Nat → ClassId} {b : Nat → Nat} {w : ww_W} {S S' : mm} {d : Nat} {Q : zQ} {P : aP} {mk B n q : Nat} {res : rP} {F : List fF} {x : Option aV} {s : aS} {y : Int32}
theorem or_1 {f : Int32} (h : f = 0 ∨ f = 1) : f ||| 1 = 1 := by rcases h with rfl | rfl <;> decide
theorem or_0 {f : Int32} (h : f = 0 ∨ f = 1) : f ||| 0 = f := by rcases h with rfl | rfl <;> decide
theorem r_leaves (hb : mB b) (hd : 1 ≤ d) {a j : Nat} {xs : List Int32} (ha : a < 1000) (x1 : S.2.2.2 7 a = nI xs.length) (hx16 : xs.length ≤ 16) (x3 : ∀ k : Nat, k < xs.length → atS S.2.2.1 a k = p_at xs k) {je : Int32} (hje : je = nI (j + 1)) (hj : j ≤ 16) (hQ : Q (.inl (some (.int (p_loL (p_at xs) (nI j) xs.length 0 0)))) (mw dA b w S) 0 0) :
    zx dA d 0 0 M_VectorLanguageModel_leaves 0 (zargs 4 [.ref (b 0), .int (nI a), .int je]) [] (mw dA b w S) 0 0 Q := by
  refine z_i rfl rfl ?_
  refine z_i rfl rfl ?_
  exact r_leaves_loop hb hd ha x1 hx16 x3 hje hj xs.length 0 (by omega) hQ
theorem r_ix1 (hb : mB b) (hd : 1 ≤ d) {a : Nat} {L : Nat} {ys : List Int32} (ha : a < 1000) (x1 : S.2.2.2 7 a = nI ys.length) (hx16 : ys.length ≤ 16) (x3 : ∀ k : Nat, k < ys.length → atS S.2.2.1 a k = p_at ys k) : ∀ (r i : Nat) (sv : Int32 × Int32 × Int32) (o7 : Option Value), i + r = ys.length → ((sv.1 = 0 ∨ sv.1 = 1) ∧ (sv.2.1 = 0 ∨ sv.2.1 = 1) ∧ (sv.2.2 = 0 ∨ sv.2.2 = 1)) →
    (∀ o6 o7 : Option Value, zx dA d 0 0 M_VectorLanguageModel_indexes 96 [some (.ref (b 0)), some (.int (nI a)), some (.int (nI L)), some (.int (p_svL (p_at ys) r i sv).1), some (.int (p_svL (p_at ys) r i sv).2.1), some (.int (p_svL (p_at ys) r i sv).2.2), o6, o7, none] [] (mw dA b w S) 0 0 Q) →
    zx dA d 0 0 M_VectorLanguageModel_indexes 11 [some (.ref (b 0)), some (.int (nI a)), some (.int (nI L)), some (.int sv.1), some (.int sv.2.1), some (.int sv.2.2), some (.int (nI i)), o7, none] [] (mw dA b w S) 0 0 Q := by
  intro r
  induction r with
  | zero =>
    intro i sv o7 hi hsv hQ
    repeat first | refine z_i rfl rfl ?_ | refine m_gt hb rfl rfl ?_
    refine m_ldv hb (j := a) rfl rfl rfl ha x1 ?_
    refine z_bt rfl rfl (nI_le (by omega) (by omega)) ?_
    exact hQ _ _
  | succ r ih =>
    intro i sv o7 hi hsv hQ
    replace hQ : ∀ o6 o7 : Option Value, zx dA d 0 0 M_VectorLanguageModel_indexes 96 [some (.ref (b 0)), some (.int (nI a)), some (.int (nI L)), some (.int (p_svL (p_at ys) r (i + 1) (p_sv (p_at ys i) sv)).1), some (.int (p_svL (p_at ys) r (i + 1) (p_sv (p_at ys i) sv)).2.1), some (.int (p_svL (p_at ys) r (i + 1) (p_sv (p_at ys i) sv)).2.2), o6, o7, none] [] (mw dA b w S) 0 0 Q := hQ
    have ih2 := ih (i + 1) (p_sv (p_at ys i) sv) (some (.int (p_at ys i))) (by omega) (p_sv_01 hsv) hQ
    rw [← nI_1] at ih2
    obtain ⟨s1, s2, s3⟩ := sv
    obtain ⟨e1, e2, e3⟩ := hsv
    dsimp only at e1 e2 e3
    repeat first | refine z_i rfl rfl ?_ | refine m_gt hb rfl rfl ?_
    refine m_ldv hb (j := a) rfl rfl rfl ha x1 ?_
    refine z_bf rfl rfl (nI_ge (by omega) (by omega)) ?_
    repeat first | refine z_i rfl rfl ?_ | refine m_gt hb rfl rfl ?_
    refine z_cVk [.int (nI a), .int (nI i)] [] 0 0 0 rfl (m_obj hb) rfl rfl (Nat.le_of_ble_eq_true rfl) (Nat.le_of_ble_eq_true rfl) (by omega) (by omega) (by omega) (r_atv hb (x3 _ (by omega)) ha (by omega) _ ⟨_, rfl, ?_⟩)
    repeat first | refine z_i rfl rfl ?_ | refine m_gt hb rfl rfl ?_
    by_cases hn : p_at ys i = pNA
    · rw [show p_sv (p_at ys i) (s1, s2, s3) = (s1, s2, 1) by unfold p_sv; rw [if_pos hn]] at ih2
      refine z_bf rfl rfl (fun q => q hn) ?_
      refine z_i rfl rfl ?_
      refine z_j rfl ?_
      repeat first | refine z_i rfl rfl ?_ | refine m_gt hb rfl rfl ?_
      refine z_bt rfl rfl hn ?_
      repeat first | refine z_i rfl rfl ?_ | refine m_gt hb rfl rfl ?_
      refine z_bt rfl rfl hn ?_
      refine z_i rfl rfl ?_
      refine z_i rfl rfl ?_
      refine z_i rfl rfl ?_
      refine z_i rfl rfl ?_
      refine z_j rfl ?_
      dsimp only
      rw [or_1 e3, or_0 e1, or_0 e2]
      exact ih2
    · refine z_bt rfl rfl hn ?_
      repeat first | refine z_i rfl rfl ?_ | refine m_gt hb rfl rfl ?_
      refine z_bf rfl rfl hn ?_
      repeat first | refine z_i rfl rfl ?_ | refine m_gt hb rfl rfl ?_
      by_cases h0 : 0 ≤ p_at ys i
      · refine z_bt rfl rfl h0 ?_
        repeat first | refine z_i rfl rfl ?_ | refine m_gt hb rfl rfl ?_
        refine z_bf rfl rfl hn ?_
        repeat first | refine z_i rfl rfl ?_ | refine m_gt hb rfl rfl ?_
        by_cases h1 : p_at ys i ≤ 0
        · rw [show p_sv (p_at ys i) (s1, s2, s3) = (s1, s2, s3) by unfold p_sv; rw [if_neg hn, if_pos h0, if_pos h1]] at ih2
          refine z_bt rfl rfl h1 ?_
          refine z_i rfl rfl ?_
          refine z_i rfl rfl ?_
          refine z_i rfl rfl ?_
          refine z_i rfl rfl ?_
          refine z_j rfl ?_
          dsimp only
          rw [or_0 e3, or_0 e1, or_0 e2]
          exact ih2
        · rw [show p_sv (p_at ys i) (s1, s2, s3) = (s1, 1, s3) by unfold p_sv; rw [if_neg hn, if_pos h0, if_neg h1]] at ih2
          refine z_bf rfl rfl h1 ?_
          refine z_i rfl rfl ?_
          refine z_j rfl ?_
          refine z_i rfl rfl ?_
          refine z_i rfl rfl ?_
          refine z_i rfl rfl ?_
          refine z_j rfl ?_
          dsimp only
          rw [or_0 e3, or_0 e1, or_1 e2]
          exact ih2
      · rw [show p_sv (p_at ys i) (s1, s2, s3) = (1, s2, s3) by unfold p_sv; rw [if_neg hn, if_neg h0]] at ih2
        refine z_bf rfl rfl h0 ?_
        refine z_i rfl rfl ?_
        refine z_j rfl ?_
        repeat first | refine z_i rfl rfl ?_ | refine m_gt hb rfl rfl ?_
        refine z_bf rfl rfl hn ?_
        repeat first | refine z_i rfl rfl ?_ | refine m_gt hb rfl rfl ?_
        refine z_bt rfl rfl ?_ ?_
        · rw [Int32.le_iff_toInt_le, show (0 : Int32).toInt = 0 by decide] at h0
          show p_at ys i ≤ 0
          rw [Int32.le_iff_toInt_le, show (0 : Int32).toInt = 0 by decide]
          omega
        refine z_i rfl rfl ?_
        refine z_i rfl rfl ?_
        refine z_i rfl rfl ?_
        refine z_i rfl rfl ?_
        refine z_j rfl ?_
        dsimp only
        rw [or_0 e3, or_1 e1, or_0 e2]
        exact ih2
theorem tl_nI {j : Nat} (hj : j ≤ 100) : tl (nI j) = nI (j + 1) := by
  unfold tl
  rw [if_neg (fun q => nI_pos (n := j) (by omega) (by rw [q]; decide)), if_neg (show ¬ (1000 : Int32) ≤ nI j from (show ¬ nI 1000 ≤ nI j from nI_ge (by omega) (by omega))), nI_1]
theorem okP_nI {j : Nat} (hj : j ≤ 100) : okP (nI j) := Or.inr (by rw [nI_toInt (by omega)]; omega)
theorem r_ix2 (hb : mB b) (hd : 2 ≤ d) {a L : Nat} {ys : List Int32} {be v4 v5 : Int32} (hbe : ¬ be = 0) (ha : a < 1000) (x1 : S.2.2.2 7 a = nI ys.length) (hx16 : ys.length ≤ 16) (x3 : ∀ k : Nat, k < ys.length → atS S.2.2.1 a k = p_at ys k) (hL : L ≤ 16) : ∀ (r i : Nat) (l : List Int32) (T : Nat → Int32), i + r = L → l.length ≤ i → tR T l →
    (∀ T : Nat → Int32, tR T (p_otL (p_at ys) ys.length r i l) → Q (.inl (some (.int (nI (p_otL (p_at ys) ys.length r i l).length)))) (mw dA b w (jT S T)) 0 0) →
    zx dA d 0 0 M_VectorLanguageModel_indexes 124 [some (.ref (b 0)), some (.int (nI a)), some (.int (nI L)), some (.int be), some (.int v4), some (.int v5), some (.int (nI l.length)), some (.int (nI i)), none] [] (mw dA b w (jT S T)) 0 0 Q := by
  intro r
  induction r with
  | zero =>
    intro i l T hi hl hT hQ
    repeat first | refine z_i rfl rfl ?_ | refine m_gt hb rfl rfl ?_
    refine z_bf rfl rfl hbe ?_
    repeat first | refine z_i rfl rfl ?_ | refine m_gt hb rfl rfl ?_
    refine z_bt rfl rfl (nI_le (by omega) (by omega)) ?_
    repeat first | refine z_i rfl rfl ?_ | refine m_gt hb rfl rfl ?_
    refine z_bt rfl rfl hbe ?_
    repeat first | refine z_i rfl rfl ?_ | refine m_gt hb rfl rfl ?_
    exact z_retI rfl (Nat.zero_le _) (Nat.zero_le _) (hQ T hT)
  | succ r ih =>
    intro i l T hi hl hT hQ
    replace hQ : ∀ T : Nat → Int32, tR T (p_otL (p_at ys) ys.length r (i + 1) (if p_loL (p_at ys) (nI i) ys.length 0 0 = 0 then l ++ [nI i] else l)) → Q (.inl (some (.int (nI (p_otL (p_at ys) ys.length r (i + 1) (if p_loL (p_at ys) (nI i) ys.length 0 0 = 0 then l ++ [nI i] else l)).length)))) (mw dA b w (jT S T)) 0 0 := hQ
    repeat first | refine z_i rfl rfl ?_ | refine m_gt hb rfl rfl ?_
    refine z_bf rfl rfl hbe ?_
    repeat first | refine z_i rfl rfl ?_ | refine m_gt hb rfl rfl ?_
    refine z_bf rfl rfl (nI_ge (by omega) (by omega)) ?_
    repeat first | refine z_i rfl rfl ?_ | refine m_gt hb rfl rfl ?_
    refine z_cVk [.int (nI a), .int (nI i + 1)] [] 1 0 0 rfl (m_obj hb) rfl rfl (Nat.le_of_ble_eq_true rfl) (Nat.le_of_ble_eq_true rfl) (by omega) (by omega) (by omega) (r_leaves (S := jT S T) (j := i) hb (by omega) ha x1 hx16 x3 (nI_1 i) (by omega) ⟨_, rfl, ?_⟩)
    refine z_b rfl rfl (fun h1 => ?_) (fun h1 => ?_)
    · replace h1 : p_loL (p_at ys) (nI i) ys.length 0 0 = 0 := h1
      rw [if_pos h1] at hQ
      repeat first | refine z_i rfl rfl ?_ | refine m_gt hb rfl rfl ?_
      refine m_st hb (j := l.length) rfl rfl rfl (show l.length < 16 by omega) ?_
      rw [jT_A]
      refine z_i rfl rfl ?_
      refine z_i rfl rfl ?_
      refine z_j rfl ?_
      have := ih (i + 1) (l ++ [nI i]) (upd T l.length (nI i + 1)) (by omega) (by simp; omega) (tR_add hT (by rw [tl_nI (by omega), nI_1]) (okP_nI (by omega))) hQ
      rw [List.length_append, show [nI i].length = 1 from rfl, ← nI_1, ← nI_1] at this
      exact this
    · replace h1 : ¬ p_loL (p_at ys) (nI i) ys.length 0 0 = 0 := h1
      rw [if_neg h1] at hQ
      refine z_j rfl ?_
      refine z_i rfl rfl ?_
      refine z_j rfl ?_
      have := ih (i + 1) l T (by omega) (by omega) hT hQ
      rw [← nI_1] at this
      exact this
theorem tl_tho {e : Int32} (h0 : ¬ e = 0) (h1 : e = pNA ∨ 0 ≤ e) (ho : okI e) : tl (p_tho e) = (if e = pNA then 0 else if e ≤ 1000 then e else 1000) ∧ okP (p_tho e) := by
  unfold p_tho
  by_cases hn : e = pNA
  · rw [if_pos hn, if_pos hn]
    exact ⟨rfl, Or.inl rfl⟩
  · rw [if_neg hn, if_neg hn]
    have h2 := h1.resolve_left hn
    rw [Int32.le_iff_toInt_le, show (0 : Int32).toInt = 0 by decide] at h2
    have h3 := i32_ne0 h0
    have h4 := okI_b ho hn
    have e1 : (e - 1).toInt = e.toInt - 1 := i32_sub (by rw [show (1 : Int32).toInt = 1 by decide]; omega) (by rw [show (1 : Int32).toInt = 1 by decide]; omega)
    refine ⟨?_, Or.inr (by omega)⟩
    unfold tl
    rw [if_neg (fun q => by rw [q] at e1; rw [show pNA.toInt = -2147483648 by decide] at e1; omega)]
    by_cases h5 : e ≤ 1000
    · have h5' := h5
      rw [Int32.le_iff_toInt_le, show (1000 : Int32).toInt = 1000 by decide] at h5'
      rw [if_pos h5, if_neg (fun q => by rw [Int32.le_iff_toInt_le, e1, show (1000 : Int32).toInt = 1000 by decide] at q; omega)]
      exact Int32.toInt_inj.mp (by rw [i32_add (by rw [e1, show (1 : Int32).toInt = 1 by decide]; omega) (by rw [e1, show (1 : Int32).toInt = 1 by decide]; omega), e1, show (1 : Int32).toInt = 1 by decide]; omega)
    · have h5' := h5
      rw [Int32.le_iff_toInt_le, show (1000 : Int32).toInt = 1000 by decide] at h5'
      rw [if_neg h5, if_pos (by rw [Int32.le_iff_toInt_le, e1, show (1000 : Int32).toInt = 1000 by decide]; omega)]
theorem r_ix3 (hb : mB b) (hd : 1 ≤ d) {a : Nat} {ys : List Int32} {v4 v5 : Int32} {o2 : Option Value} (ha : a < 1000) (x1 : S.2.2.2 7 a = nI ys.length) (x2 : okX ys) (x3 : ∀ k : Nat, k < ys.length → atS S.2.2.1 a k = p_at ys k) (hpos : ∀ k : Nat, k < ys.length → p_at ys k = pNA ∨ 0 ≤ p_at ys k) : ∀ (r i : Nat) (l : List Int32) (T : Nat → Int32) (o8 : Option Value), i + r = ys.length → l.length ≤ i → tR T l →
    (∀ T : Nat → Int32, tR T (p_thL (p_at ys) r i l) → Q (.inl (some (.int (nI (p_thL (p_at ys) r i l).length)))) (mw dA b w (jT S T)) 0 0) →
    zx dA d 0 0 M_VectorLanguageModel_indexes 172 [some (.ref (b 0)), some (.int (nI a)), o2, some (.int 0), some (.int v4), some (.int v5), some (.int (nI l.length)), some (.int (nI i)), o8] [] (mw dA b w (jT S T)) 0 0 Q := by
  intro r
  have hx16 := x2.1
  induction r with
  | zero =>
    intro i l T o8 hi hl hT hQ
    repeat first | refine z_i rfl rfl ?_ | refine m_gt hb rfl rfl ?_
    refine z_bf rfl rfl (fun q => q rfl) ?_
    repeat first | refine z_i rfl rfl ?_ | refine m_gt hb rfl rfl ?_
    refine m_ldv hb (j := a) rfl rfl rfl ha x1 ?_
    refine z_bt rfl rfl (nI_le (by omega) (by omega)) ?_
    repeat first | refine z_i rfl rfl ?_ | refine m_gt hb rfl rfl ?_
    exact z_retI rfl (Nat.zero_le _) (Nat.zero_le _) (hQ T hT)
  | succ r ih =>
    intro i l T o8 hi hl hT hQ
    replace hQ : ∀ T : Nat → Int32, tR T (p_thL (p_at ys) r (i + 1) (if p_at ys i = 0 then l else l ++ [p_tho (p_at ys i)])) → Q (.inl (some (.int (nI (p_thL (p_at ys) r (i + 1) (if p_at ys i = 0 then l else l ++ [p_tho (p_at ys i)])).length)))) (mw dA b w (jT S T)) 0 0 := hQ
    repeat first | refine z_i rfl rfl ?_ | refine m_gt hb rfl rfl ?_
    refine z_bf rfl rfl (fun q => q rfl) ?_
    repeat first | refine z_i rfl rfl ?_ | refine m_gt hb rfl rfl ?_
    refine m_ldv hb (j := a) rfl rfl rfl ha x1 ?_
    refine z_bf rfl rfl (nI_ge (by omega) (by omega)) ?_
    repeat first | refine z_i rfl rfl ?_ | refine m_gt hb rfl rfl ?_
    refine z_cVk [.int (nI a), .int (nI i)] [] 0 0 0 rfl (m_obj hb) rfl rfl (Nat.le_of_ble_eq_true rfl) (Nat.le_of_ble_eq_true rfl) (by omega) (by omega) (by omega) (r_atv (S := jT S T) hb (x3 _ (by omega)) ha (by omega) _ ⟨_, rfl, ?_⟩)
    repeat first | refine z_i rfl rfl ?_ | refine m_gt hb rfl rfl ?_
    refine z_b rfl rfl (fun h1 => ?_) (fun h1 => ?_)
    · replace h1 : ¬ p_at ys i = 0 := h1
      rw [if_neg h1] at hQ
      obtain ⟨t1, t2⟩ := tl_tho h1 (hpos i (by omega)) (x2.2 i (by omega))
      have hset : ∀ e : Int32, e = tl (p_tho (p_at ys i)) → zx dA d 0 0 M_VectorLanguageModel_indexes 237 [some (.ref (b 0)), some (.int (nI a)), o2, some (.int 0), some (.int v4), some (.int v5), some (.int (nI l.length)), some (.int (nI i)), some (.int (p_at ys i))] [.int e, .int (nI l.length), .ref (b 32)] (mw dA b w (jT S T)) 0 0 Q := by
        intro e he
        refine m_st hb (j := l.length) rfl rfl rfl (show l.length < 16 by omega) ?_
        rw [jT_A]
        refine z_i rfl rfl ?_
        refine z_i rfl rfl ?_
        refine z_j rfl ?_
        have := ih (i + 1) (l ++ [p_tho (p_at ys i)]) (upd T l.length e) (some (.int (p_at ys i))) (by omega) (by simp; omega) (tR_add hT he t2) hQ
        rw [List.length_append, show [p_tho (p_at ys i)].length = 1 from rfl, ← nI_1, ← nI_1] at this
        exact this
      repeat first | refine z_i rfl rfl ?_ | refine m_gt hb rfl rfl ?_
      refine z_b rfl rfl (fun h2 => ?_) (fun h2 => ?_)
      · replace h2 : ¬ p_at ys i = pNA := h2
        rw [if_neg h2] at t1
        repeat first | refine z_i rfl rfl ?_ | refine m_gt hb rfl rfl ?_
        refine z_b rfl rfl (fun h3 => ?_) (fun h3 => ?_)
        · replace h3 : p_at ys i ≤ 1000 := h3
          rw [if_pos h3] at t1
          refine z_i rfl rfl ?_
          exact hset _ t1.symm
        · replace h3 : ¬ p_at ys i ≤ 1000 := h3
          rw [if_neg h3] at t1
          refine z_i rfl rfl ?_
          refine z_j rfl ?_
          exact hset _ t1.symm
      · replace h2 : p_at ys i = pNA := Classical.not_not.mp h2
        rw [if_pos h2] at t1
        refine z_i rfl rfl ?_
        refine z_j rfl ?_
        exact hset _ t1.symm
    · replace h1 : p_at ys i = 0 := Classical.not_not.mp h1
      rw [if_pos h1] at hQ
      refine z_j rfl ?_
      refine z_i rfl rfl ?_
      refine z_j rfl ?_
      have := ih (i + 1) l T (some (.int (p_at ys i))) (by omega) (by omega) hT hQ
      rw [← nI_1] at this
      exact this
theorem r_indexes (hb : mB b) (hd : 2 ≤ d) {a L : Nat} {ys : List Int32} (ha : a < 1000) (x1 : S.2.2.2 7 a = nI ys.length) (x2 : okX ys) (x3 : ∀ k : Nat, k < ys.length → atS S.2.2.1 a k = p_at ys k) (hL : L ≤ 16)
    (h0 : p_find (p_at ys) ys.length L true = none → Q (.inl (some (.int (-1)))) (mw dA b w (jI S 29 8)) 0 0)
    (h1 : ∀ (l : List Int32) (T : Nat → Int32), p_find (p_at ys) ys.length L true = some l → l.length ≤ 16 → tR T l → Q (.inl (some (.int (nI l.length)))) (mw dA b w (jT S T)) 0 0) :
    zx dA d 0 0 M_VectorLanguageModel_indexes 0 (zargs 9 [.ref (b 0), .int (nI a), .int (nI L)]) [] (mw dA b w S) 0 0 Q := by
  have hx16 := x2.1
  have hlen : ∀ l : List Int32, p_find (p_at ys) ys.length L true = some l → l.length ≤ 16 := fun l hl => by have := p_find_len hl; omega
  refine z_i rfl rfl ?_
  refine z_i rfl rfl ?_
  refine z_i rfl rfl ?_
  refine z_i rfl rfl ?_
  refine z_i rfl rfl ?_
  refine z_i rfl rfl ?_
  refine z_i rfl rfl ?_
  refine z_i rfl rfl ?_
  refine r_ix1 hb (by omega) ha x1 hx16 x3 ys.length 0 (0, 0, 0) none (by omega) ⟨Or.inl rfl, Or.inl rfl, Or.inl rfl⟩ (fun o6 o7 => ?_)
  obtain ⟨g1, g2⟩ := p_svL_no (f := p_at ys) ys.length 0 (0, 0, 0)
  unfold p_find at h0 h1 hlen
  simp only [Bool.true_eq_false, and_false, if_false] at h0 h1 hlen
  have hgo2 : ¬ (p_svL (p_at ys) ys.length 0 (0, 0, 0)).1 = 0 → (p_svL (p_at ys) ys.length 0 (0, 0, 0)).2.1 = 0 → (p_svL (p_at ys) ys.length 0 (0, 0, 0)).2.2 = 0 → zx dA d 0 0 M_VectorLanguageModel_indexes 118 [some (.ref (b 0)), some (.int (nI a)), some (.int (nI L)), some (.int (p_svL (p_at ys) ys.length 0 (0, 0, 0)).1), some (.int (p_svL (p_at ys) ys.length 0 (0, 0, 0)).2.1), some (.int (p_svL (p_at ys) ys.length 0 (0, 0, 0)).2.2), o6, o7, none] [] (mw dA b w S) 0 0 Q := by
    intro k1 k2 k3
    rw [if_neg k1, if_pos ⟨k2, k3⟩] at h1 hlen
    refine z_i rfl rfl ?_
    refine z_i rfl rfl ?_
    refine z_i rfl rfl ?_
    refine z_i rfl rfl ?_
    have := r_ix2 (S := S) (Q := Q) (d := d) (dA := dA) (w := w) (v4 := (p_svL (p_at ys) ys.length 0 (0, 0, 0)).2.1) (v5 := (p_svL (p_at ys) ys.length 0 (0, 0, 0)).2.2) hb hd k1 ha x1 hx16 x3 hL L 0 [] (S.2.2.2 32) (by omega) (by simp) (fun k hk => by simp at hk) (fun T hT => h1 _ T rfl (hlen _ rfl) hT)
    rw [jT_self] at this
    exact this
  repeat first | refine z_i rfl rfl ?_ | refine m_gt hb rfl rfl ?_
  refine z_b rfl rfl (fun k1 => ?_) (fun k1 => ?_)
  · replace k1 : (p_svL (p_at ys) ys.length 0 (0, 0, 0)).1 = 0 := k1
    rw [if_pos k1] at h1 hlen
    rw [k1]
    refine z_i rfl rfl ?_
    refine z_i rfl rfl ?_
    refine z_i rfl rfl ?_
    refine z_i rfl rfl ?_
    repeat first | refine z_i rfl rfl ?_ | refine m_gt hb rfl rfl ?_
    refine z_bt rfl rfl rfl ?_
    refine z_i rfl rfl ?_
    refine z_i rfl rfl ?_
    have := r_ix3 (S := S) (Q := Q) (d := d) (dA := dA) (w := w) (o2 := some (.int (nI L))) (v4 := (p_svL (p_at ys) ys.length 0 (0, 0, 0)).2.1) (v5 := (p_svL (p_at ys) ys.length 0 (0, 0, 0)).2.2) hb (by omega) ha x1 x2 x3 (fun k hk => (g1 k1).2 k (by omega) (by omega)) ys.length 0 [] (S.2.2.2 32) none (by omega) (by simp) (fun k hk => by simp at hk) (fun T hT => h1 _ T rfl (hlen _ rfl) hT)
    rw [jT_self] at this
    exact this
  · replace k1 : ¬ (p_svL (p_at ys) ys.length 0 (0, 0, 0)).1 = 0 := k1
    have hbad : ¬ ((p_svL (p_at ys) ys.length 0 (0, 0, 0)).2.1 = 0 ∧ (p_svL (p_at ys) ys.length 0 (0, 0, 0)).2.2 = 0) → zx dA d 0 0 M_VectorLanguageModel_indexes 110 [some (.ref (b 0)), some (.int (nI a)), some (.int (nI L)), some (.int (p_svL (p_at ys) ys.length 0 (0, 0, 0)).1), some (.int (p_svL (p_at ys) ys.length 0 (0, 0, 0)).2.1), some (.int (p_svL (p_at ys) ys.length 0 (0, 0, 0)).2.2), o6, o7, none] [] (mw dA b w S) 0 0 Q := by
      intro hh
      rw [if_neg k1, if_neg hh] at h0
      repeat first | refine z_i rfl rfl ?_ | refine m_gt hb rfl rfl ?_
      refine m_pt hb rfl rfl ?_
      repeat first | refine z_i rfl rfl ?_ | refine m_gt hb rfl rfl ?_
      exact z_retI rfl (Nat.zero_le _) (Nat.zero_le _) (h0 rfl)
    repeat first | refine z_i rfl rfl ?_ | refine m_gt hb rfl rfl ?_
    refine z_b rfl rfl (fun k2 => hbad (fun q => k2 q.1)) (fun k2 => ?_)
    replace k2 : (p_svL (p_at ys) ys.length 0 (0, 0, 0)).2.1 = 0 := Classical.not_not.mp k2
    repeat first | refine z_i rfl rfl ?_ | refine m_gt hb rfl rfl ?_
    refine z_b rfl rfl (fun k3 => hgo2 k1 k2 k3) (fun k3 => hbad (fun q => k3 q.2))
end MY
