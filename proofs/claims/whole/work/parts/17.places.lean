/-! range; the places that indexes mean -/
section ZRG
variable {dA : Nat → ClassId} {d K N : Nat} {w : ww_W} {Q : zQ}
def p_rg (x y : Int32) (j : Nat) : Int32 := if y < x then x - nI j else x + nI j
theorem r_range_loop {e q c : Nat} {x y : Int32} (hd : 4 ≤ d) (hK : 2 ≤ K) (hN : c + 2 ≤ N) (hc : c < 16) (hq0 : w q = none) (hQ : zvec dA w (c + 1) (p_rg x y) Q 2 (c + 2)) : ∀ (r j : Nat) (F : Nat → Int32), j + r = c + 1 → (∀ i : Nat, i < j → F i = p_rg x y i) →
    zx dA d K N M_Evaluator_range 47 [some (.ref e), some (.int x), some (.int y), some (.int (nI c)), some (.ref q), some (.int (nI j))] [] (va_up w q (some (.inl (dA 0, c + 1, .inl F)))) 1 (c + 1) Q := by
  intro r
  induction r with
  | zero =>
    intro j F hj hF
    repeat refine z_i rfl rfl ?_
    refine z_bt rfl rfl (nI_lt (by omega) (by omega)) ?_
    refine z_new rfl (by omega) (by omega) (fun v hv => ?_)
    obtain ⟨hv1, hv2⟩ := zup_none hv
    repeat refine z_i rfl rfl ?_
    refine z_cIk [.ref q] [.ref v] 3 0 0 rfl rfl rfl (Nat.le_of_ble_eq_true rfl) (Nat.le_of_ble_eq_true rfl) (by omega) (by omega) (by omega) (r_Vector_init_a (by omega) (va_up_self _ _ _) _ ⟨_, rfl, ?_⟩)
    rw [bx_uu]
    refine z_retA rfl rfl (by omega) (by omega) ?_
    exact hQ q v F hq0 hv2 hv1 (fun i hi => hF i (by omega))
  | succ r ih =>
    intro j F hj hF
    repeat refine z_i rfl rfl ?_
    refine z_bf rfl rfl (nI_nlt (by omega) (by omega)) ?_
    repeat refine z_i rfl rfl ?_
    have hk : ∀ z : Int32, z = p_rg x y j → zx dA d K N M_Evaluator_range 73 [some (.ref e), some (.int x), some (.int y), some (.int (nI c)), some (.ref q), some (.int (nI j))] [.int z, .int (nI j), .ref q] (va_up w q (some (.inl (dA 0, c + 1, .inl F)))) 1 (c + 1) Q := by
      intro z hz
      refine z_iast (j := j) rfl (va_up_self _ _ _) rfl (by omega) (by omega) ?_
      rw [bx_uu]
      repeat refine z_i rfl rfl ?_
      refine z_j rfl ?_
      have := ih (j + 1) (upd F j z) (by omega) (fun i hi => by
        by_cases h : i = j
        · subst h; rw [pk_us]; exact hz
        · rw [pk_un h]; exact hF i (by omega))
      rw [← nI_1] at this
      exact this
    refine z_b rfl rfl (fun h => ?_) (fun h => ?_)
    · repeat refine z_i rfl rfl ?_
      exact hk _ (by rw [p_rg, if_pos h])
    · repeat refine z_i rfl rfl ?_
      refine z_j rfl ?_
      exact hk _ (by rw [p_rg, if_neg h])
/-- what range answers: 0 a vector, else the failure -/
theorem r_range {e : Nat} {x y : Int32} {fs : List Value} (hd : 4 ≤ d) (hK : 2 ≤ K) (hN : 17 ≤ N) (he : w e = some (.inr (C_Evaluator, fs))) (hl : fs.length = 13)
    (h0 : x = pNA ∨ y = pNA → Q (.inl (some .null)) (va_up w e (some (.inr (C_Evaluator, fs.set 5 (.int 5))))) 0 0)
    (h1 : ¬ x = pNA → ¬ y = pNA → ¬ p_abs (y - x) < 16 → Q (.inl (some .null)) (va_up w e (some (.inr (C_Evaluator, fs.set 5 (.int 1))))) 0 0)
    (hab : ¬ x = pNA → ¬ y = pNA → ¬ p_abs (y - x) < 0)
    (hQ : ¬ x = pNA → ¬ y = pNA → ∀ c : Nat, c < 16 → p_abs (y - x) = nI c → zvec dA w (c + 1) (p_rg x y) Q 2 (c + 2)) : zx dA d K N M_Evaluator_range 0 (zargs 6 [.ref e, .int x, .int y]) [] w 0 0 Q := by
  repeat refine z_i rfl rfl ?_
  refine z_b rfl rfl (fun h => ?_) (fun h => ?_)
  · repeat refine z_i rfl rfl ?_
    refine z_cVk [.int 5] [] 0 0 0 rfl he rfl rfl (Nat.le_of_ble_eq_true rfl) (Nat.le_of_ble_eq_true rfl) (by omega) (by omega) (by omega) (r_fail he hl ⟨_, rfl, ?_⟩)
    exact z_retA rfl rfl (by omega) (by omega) (h0 (Or.inl h))
  · repeat refine z_i rfl rfl ?_
    refine z_b rfl rfl (fun h2 => ?_) (fun h2 => ?_)
    · repeat refine z_i rfl rfl ?_
      refine z_cSk [.int (y - x)] [] 0 0 0 rfl rfl rfl (Nat.le_of_ble_eq_true rfl) (Nat.le_of_ble_eq_true rfl) (by omega) (by omega) (by omega) (r_abs dA 0 _ _ _ ⟨_, rfl, ?_⟩)
      repeat refine z_i rfl rfl ?_
      refine z_b rfl rfl (fun h3 => ?_) (fun h3 => ?_)
      · obtain ⟨c, hc1, hc2⟩ := nI_of (hab h h2)
        have hc : c < 16 := by
          replace h3 : p_abs (y - x) < nI 16 := h3
          rw [hc2] at h3
          exact (nI_ltI (by omega) (by omega)).mp h3
        rw [hc2]
        repeat refine z_i rfl rfl ?_
        refine z_newi (j := c + 1) rfl (nI_1 c) (by omega) (by omega) (by omega) (fun q hq0 => ?_)
        refine z_i rfl rfl ?_
        refine z_i rfl rfl ?_
        refine z_i rfl rfl ?_
        have := r_range_loop (N := N) (e := e) (c := c) hd hK (by omega) hc hq0 (hQ h h2 c hc hc2) (c + 1) 0 (fun _ => 0) (by omega) (fun i hi => by omega)
        rw [nI_0] at this
        rw [show 0 + 0 + (c + 1) = c + 1 by omega]
        exact this
      · repeat refine z_i rfl rfl ?_
        refine z_cVk [.int 1] [] 0 0 0 rfl he rfl rfl (Nat.le_of_ble_eq_true rfl) (Nat.le_of_ble_eq_true rfl) (by omega) (by omega) (by omega) (r_fail he hl ⟨_, rfl, ?_⟩)
        exact z_retA rfl rfl (by omega) (by omega) (h1 h h2 h3)
    · repeat refine z_i rfl rfl ?_
      refine z_cVk [.int 5] [] 0 0 0 rfl he rfl rfl (Nat.le_of_ble_eq_true rfl) (Nat.le_of_ble_eq_true rfl) (by omega) (by omega) (by omega) (r_fail he hl ⟨_, rfl, ?_⟩)
      exact z_retA rfl rfl (by omega) (by omega) (h0 (Or.inr (Classical.not_not.mp h2)))
end ZRG
section ZPL
variable {dA : Nat → ClassId} {d K N : Nat} {w : ww_W} {Q : zQ} {pl pr : Nat}
/-- the world with the places' object and row -/
def pw (dA : Nat → ClassId) (w : ww_W) (pl pr : Nat) (c b a n : Int32) (F : Nat → Int32) : ww_W := va_up (va_up w pr (some (.inl (dA 0, 16, .inl F)))) pl (some (.inr (C_Places, [.ref pr, .int c, .int b, .int a, .int n])))
theorem pw_pl {c b a n : Int32} {F : Nat → Int32} : pw dA w pl pr c b a n F pl = some (.inr (C_Places, [.ref pr, .int c, .int b, .int a, .int n])) := va_up_self _ _ _
theorem pw_pr {c b a n : Int32} {F : Nat → Int32} (h : pr ≠ pl) : pw dA w pl pr c b a n F pr = some (.inl (dA 0, 16, .inl F)) := (va_up_ne _ _ h).trans (va_up_self _ _ _)
theorem pw_at {c b a n : Int32} {F : Nat → Int32} {q : Nat} (h1 : q ≠ pl) (h2 : q ≠ pr) : pw dA w pl pr c b a n F q = w q := (va_up_ne _ _ h1).trans (va_up_ne _ _ h2)
theorem pw_up {c b a n c' b' a' n' : Int32} {F : Nat → Int32} : va_up (pw dA w pl pr c b a n F) pl (some (.inr (C_Places, [.ref pr, .int c', .int b', .int a', .int n']))) = pw dA w pl pr c' b' a' n' F := by
  unfold pw
  rw [bx_uu]
theorem pw_row {c b a n : Int32} {F F' : Nat → Int32} (h : pr ≠ pl) : va_up (pw dA w pl pr c b a n F) pr (some (.inl (dA 0, 16, .inl F'))) = pw dA w pl pr c b a n F' := by
  unfold pw
  funext x
  simp only [va_up]
  by_cases h1 : x = pr
  · subst h1; simp [h]
  · simp [h1]
theorem pw_self {c b a n : Int32} {F : Nat → Int32} (h1 : w pl = some (.inr (C_Places, [.ref pr, .int c, .int b, .int a, .int n]))) (h2 : w pr = some (.inl (dA 0, 16, .inl F))) : w = pw dA w pl pr c b a n F := by
  unfold pw
  funext x
  simp only [va_up]
  by_cases h3 : x = pl
  · subst h3; simp [h1]
  · by_cases h4 : x = pr
    · subst h4; simp [h3, h2]
    · simp [h3, h4]
/-- what is seen among the indexes: below, above, NA -/
def p_sv (x : Int32) (s : Int32 × Int32 × Int32) : Int32 × Int32 × Int32 := if x = pNA then (s.1, s.2.1, 1) else if 0 ≤ x then (if x ≤ 0 then s else (s.1, 1, s.2.2)) else (1, s.2.1, s.2.2)
def p_svL (f : Nat → Int32) : Nat → Nat → Int32 × Int32 × Int32 → Int32 × Int32 × Int32
  | 0, _, s => s
  | r + 1, j, s => p_svL f r (j + 1) (p_sv (f j) s)
theorem p_sv_01 {x : Int32} {s : Int32 × Int32 × Int32} (h : (s.1 = 0 ∨ s.1 = 1) ∧ (s.2.1 = 0 ∨ s.2.1 = 1) ∧ (s.2.2 = 0 ∨ s.2.2 = 1)) : ((p_sv x s).1 = 0 ∨ (p_sv x s).1 = 1) ∧ ((p_sv x s).2.1 = 0 ∨ (p_sv x s).2.1 = 1) ∧ ((p_sv x s).2.2 = 0 ∨ (p_sv x s).2.2 = 1) := by
  unfold p_sv
  split
  · exact ⟨h.1, h.2.1, Or.inr rfl⟩
  · split
    · split
      · exact h
      · exact ⟨h.1, Or.inr rfl, h.2.2⟩
    · exact ⟨Or.inr rfl, h.2.1, h.2.2⟩
theorem r_survey_loop {a m : Nat} {f F : Nat → Int32} {c : Int32} (hne : pr ≠ pl) (ha : w a = some (.inl (dA 0, m, .inl f))) (ha1 : a ≠ pl) (ha2 : a ≠ pr) (hm : m < 2 ^ 31) : ∀ (r j : Nat) (s : Int32 × Int32 × Int32) (o : Option Value), j + r = m → Q (.inl none) (pw dA w pl pr c (p_svL f r j s).1 (p_svL f r j s).2.1 (p_svL f r j s).2.2 F) 0 0 →
    zx dA d K N M_Places_survey 23 [some (.ref pl), some (.ref a), some (.ref a), some (.int (nI m)), some (.int (nI j)), o] [] (pw dA w pl pr c s.1 s.2.1 s.2.2 F) 0 0 Q := by
  intro r
  induction r with
  | zero =>
    intro j s o hj hq
    repeat refine z_i rfl rfl ?_
    refine z_bt rfl rfl (nI_le (by omega) (by omega)) ?_
    exact z_retV rfl (Nat.zero_le _) (Nat.zero_le _) hq
  | succ r ih =>
    intro j s o hj hq
    repeat refine z_i rfl rfl ?_
    refine z_bf rfl rfl (nI_ge (by omega) (by omega)) ?_
    repeat refine z_i rfl rfl ?_
    refine z_iald (j := j) rfl ((pw_at ha1 ha2).trans ha) rfl (by omega) (by omega) ?_
    repeat refine z_i rfl rfl ?_
    have hk := ih (j + 1) (p_sv (f j) s) (some (.int (f j))) (by omega) hq
    rw [← nI_1] at hk
    refine z_b rfl rfl (fun h => ?_) (fun h => ?_)
    · repeat refine z_i rfl rfl ?_
      replace h : ¬ f j = pNA := h
      refine z_b rfl rfl (fun h1 => ?_) (fun h1 => ?_)
      · repeat refine z_i rfl rfl ?_
        replace h1 : 0 ≤ f j := h1
        refine z_b rfl rfl (fun h2 => ?_) (fun h2 => ?_)
        · repeat refine z_i rfl rfl ?_
          refine z_j rfl ?_
          replace h2 : f j ≤ 0 := h2
          rw [p_sv, if_neg h, if_pos h1, if_pos h2] at hk
          exact hk
        · repeat refine z_i rfl rfl ?_
          replace h2 : ¬ f j ≤ 0 := h2
          refine z_put rfl pw_pl (Nat.le_of_ble_eq_true rfl) ⟨rfl, rfl⟩ ?_
          repeat refine z_i rfl rfl ?_
          refine z_j rfl ?_
          rw [p_sv, if_neg h, if_pos h1, if_neg h2, ← pw_up] at hk
          exact hk
      · repeat refine z_i rfl rfl ?_
        replace h1 : ¬ 0 ≤ f j := h1
        refine z_put rfl pw_pl (Nat.le_of_ble_eq_true rfl) ⟨rfl, rfl⟩ ?_
        refine z_j rfl ?_
        repeat refine z_i rfl rfl ?_
        refine z_j rfl ?_
        rw [p_sv, if_neg h, if_neg h1, ← pw_up] at hk
        exact hk
    · repeat refine z_i rfl rfl ?_
      replace h : f j = pNA := Classical.not_not.mp h
      refine z_put rfl pw_pl (Nat.le_of_ble_eq_true rfl) ⟨rfl, rfl⟩ ?_
      refine z_j rfl ?_
      repeat refine z_i rfl rfl ?_
      refine z_j rfl ?_
      rw [p_sv, if_pos h, ← pw_up] at hk
      exact hk
theorem r_survey {a m : Nat} {f F : Nat → Int32} {c b0 a0 n0 : Int32} (hne : pr ≠ pl) (ha : w a = some (.inl (dA 0, m, .inl f))) (ha1 : a ≠ pl) (ha2 : a ≠ pr) (hm : m < 2 ^ 31) (hq : Q (.inl none) (pw dA w pl pr c (p_svL f m 0 (0, 0, 0)).1 (p_svL f m 0 (0, 0, 0)).2.1 (p_svL f m 0 (0, 0, 0)).2.2 F) 0 0) :
    zx dA d K N M_Places_survey 0 (zargs 6 [.ref pl, .ref a]) [] (pw dA w pl pr c b0 a0 n0 F) 0 0 Q := by
  repeat refine z_i rfl rfl ?_
  refine z_put rfl pw_pl (Nat.le_of_ble_eq_true rfl) ⟨rfl, rfl⟩ ?_
  repeat refine z_i rfl rfl ?_
  refine z_put rfl (va_up_self _ _ _) (Nat.le_of_ble_eq_true rfl) ⟨rfl, rfl⟩ ?_
  repeat refine z_i rfl rfl ?_
  refine z_put rfl (va_up_self _ _ _) (Nat.le_of_ble_eq_true rfl) ⟨rfl, rfl⟩ ?_
  rw [bx_uu, bx_uu]
  repeat refine z_i rfl rfl ?_
  refine z_alen 0 rfl ((va_up_ne _ _ ha1).trans ((pw_at ha1 ha2).trans ha)) rfl ?_
  refine z_i rfl rfl ?_
  refine z_i rfl rfl ?_
  refine z_i rfl rfl ?_
  have := r_survey_loop (d := d) (K := K) (N := N) (Q := Q) (c := c) (F := F) hne ha ha1 ha2 hm m 0 (0, 0, 0) none (by omega) hq
  rw [nI_0, ← pw_up] at this
  exact this
/-- those told: the places of indexes that are not 0, from j on -/
def p_tho (x : Int32) : Int32 := if x = pNA then pNA else x - 1
def p_thL (f : Nat → Int32) : Nat → Nat → List Int32 → List Int32
  | 0, _, l => l
  | r + 1, j, l => p_thL f r (j + 1) (if f j = 0 then l else l ++ [p_tho (f j)])
/-- the row F begins with l -/
def p_at (l : List Int32) (j : Nat) : Int32 := l.getD j 0
def p_row (F : Nat → Int32) (l : List Int32) : Prop := ∀ j : Nat, j < l.length → F j = p_at l j
theorem p_row_nil {F : Nat → Int32} : p_row F [] := fun j h => by cases h
theorem p_row_add {F : Nat → Int32} {l : List Int32} {x : Int32} (h : p_row F l) : p_row (upd F l.length x) (l ++ [x]) := by
  intro j hj
  rw [List.length_append, List.length_singleton] at hj
  unfold p_at
  by_cases h1 : j = l.length
  · subst h1
    rw [pk_us]
    simp
  · rw [pk_un h1, h j (by omega)]
    unfold p_at
    simp [List.getElem?_append, show j < l.length by omega]
theorem r_addThose_loop {a m : Nat} {f : Nat → Int32} {b0 a0 n0 : Int32} (hne : pr ≠ pl) (ha : w a = some (.inl (dA 0, m, .inl f))) (ha1 : a ≠ pl) (ha2 : a ≠ pr) (hm : m ≤ 16) : ∀ (r j : Nat) (l : List Int32) (F : Nat → Int32), j + r = m → l.length ≤ j → p_row F l → (∀ F' : Nat → Int32, p_row F' (p_thL f r j l) → Q (.inl none) (pw dA w pl pr (nI (p_thL f r j l).length) b0 a0 n0 F') 0 0) →
    zx dA d K N M_Places_addThose 2 [some (.ref pl), some (.ref a), some (.int (nI j))] [] (pw dA w pl pr (nI l.length) b0 a0 n0 F) 0 0 Q := by
  intro r
  induction r with
  | zero =>
    intro j l F hj hl hF hq
    repeat refine z_i rfl rfl ?_
    refine z_alen 0 rfl ((pw_at ha1 ha2).trans ha) rfl ?_
    refine z_bt rfl rfl (nI_le (by omega) (by omega)) ?_
    exact z_retV rfl (Nat.zero_le _) (Nat.zero_le _) (hq F hF)
  | succ r ih =>
    intro j l F hj hl hF hq
    repeat refine z_i rfl rfl ?_
    refine z_alen 0 rfl ((pw_at ha1 ha2).trans ha) rfl ?_
    refine z_bf rfl rfl (nI_ge (by omega) (by omega)) ?_
    repeat refine z_i rfl rfl ?_
    refine z_get rfl pw_pl rfl ?_
    repeat refine z_i rfl rfl ?_
    refine z_bf rfl rfl (nI_ge (show l.length < 16 by omega) (show 16 < 2 ^ 31 by decide)) ?_
    repeat refine z_i rfl rfl ?_
    refine z_iald (j := j) rfl ((pw_at ha1 ha2).trans ha) rfl (by omega) (by omega) ?_
    refine z_b rfl rfl (fun h => ?_) (fun h => ?_)
    · replace h : f j = 0 := h
      repeat refine z_i rfl rfl ?_
      refine z_j rfl ?_
      have hk := ih (j + 1) l F (by omega) (by omega) hF (fun F' h' => by rw [p_thL, if_pos h] at hq; exact hq F' h')
      rw [← nI_1] at hk
      exact hk
    · replace h : ¬ f j = 0 := h
      repeat refine z_i rfl rfl ?_
      refine z_get rfl pw_pl rfl ?_
      repeat refine z_i rfl rfl ?_
      refine z_get rfl pw_pl rfl ?_
      repeat refine z_i rfl rfl ?_
      refine z_iald (j := j) rfl ((pw_at ha1 ha2).trans ha) rfl (by omega) (by omega) ?_
      repeat refine z_i rfl rfl ?_
      have hk : ∀ z : Int32, z = p_tho (f j) → zx dA d K N M_Places_addThose 49 [some (.ref pl), some (.ref a), some (.int (nI j))] [.int z, .int (nI l.length), .ref pr] (pw dA w pl pr (nI l.length) b0 a0 n0 F) 0 0 Q := by
        intro z hz
        subst hz
        refine z_iast (j := l.length) rfl (pw_pr hne) rfl (by omega) (by omega) ?_
        rw [pw_row hne]
        repeat refine z_i rfl rfl ?_
        refine z_get rfl pw_pl rfl ?_
        repeat refine z_i rfl rfl ?_
        refine z_put rfl pw_pl (Nat.le_of_ble_eq_true rfl) ⟨rfl, rfl⟩ ?_
        repeat refine z_i rfl rfl ?_
        refine z_j rfl ?_
        have hk := ih (j + 1) (l ++ [p_tho (f j)]) (upd F l.length (p_tho (f j))) (by omega) (by rw [List.length_append, List.length_singleton]; omega) (p_row_add hF) (fun F' h' => by rw [p_thL, if_neg h] at hq; exact hq F' h')
        rw [List.length_append, List.length_singleton, ← nI_1, ← nI_1, ← pw_up] at hk
        exact hk
      refine z_b rfl rfl (fun h1 => ?_) (fun h1 => ?_)
      · repeat refine z_i rfl rfl ?_
        refine z_iald (j := j) rfl ((pw_at ha1 ha2).trans ha) rfl (by omega) (by omega) ?_
        repeat refine z_i rfl rfl ?_
        exact hk _ (by rw [p_tho, if_neg h1])
      · repeat refine z_i rfl rfl ?_
        refine z_j rfl ?_
        exact hk _ (by rw [p_tho, if_pos (Classical.not_not.mp h1)])
theorem r_addThose {a m : Nat} {f F : Nat → Int32} {b0 a0 n0 : Int32} (hne : pr ≠ pl) (ha : w a = some (.inl (dA 0, m, .inl f))) (ha1 : a ≠ pl) (ha2 : a ≠ pr) (hm : m ≤ 16) (hq : ∀ F' : Nat → Int32, p_row F' (p_thL f m 0 []) → Q (.inl none) (pw dA w pl pr (nI (p_thL f m 0 []).length) b0 a0 n0 F') 0 0) :
    zx dA d K N M_Places_addThose 0 (zargs 3 [.ref pl, .ref a]) [] (pw dA w pl pr 0 b0 a0 n0 F) 0 0 Q := by
  refine z_i rfl rfl ?_
  refine z_i rfl rfl ?_
  have := r_addThose_loop (d := d) (K := K) (N := N) (Q := Q) (b0 := b0) (a0 := a0) (n0 := n0) hne ha ha1 ha2 hm m 0 [] F (by omega) (by simp) p_row_nil hq
  rw [nI_0, show nI ([] : List Int32).length = 0 from nI_0] at this
  exact this
end ZPL
