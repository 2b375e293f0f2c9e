/-! the other places; find; reach; pick; replaced; store -/
section ZPM
variable {dA : Nat → ClassId} {d K N : Nat} {w : ww_W} {Q : zQ} {pl pr : Nat}
/-- is the place p left out by the indexes from i on? -/
def p_loL (f : Nat → Int32) (p : Int32) : Nat → Nat → Int32 → Int32
  | 0, _, s => s
  | r + 1, i, s => p_loL f p r (i + 1) (if s = 0 then (if f i = -1 - p then 1 else 0) else 1)
theorem r_lo_loop {a m L : Nat} {f : Nat → Int32} {p : Int32} {w0 : ww_W} (ha : w0 a = some (.inl (dA 0, m, .inl f))) (hm : m ≤ 16) : ∀ (r i : Nat) (s : Int32) (o : Option Value), i + r = m → (∀ o' : Option Value, zx dA d K N M_Places_addOthers 70 [some (.ref pl), some (.ref a), some (.int (nI L)), some (.int p), some (.int (p_loL f p r i s)), some (.ref a), some (.int (nI m)), some (.int (nI m)), o'] [] w0 0 0 Q) →
    zx dA d K N M_Places_addOthers 30 [some (.ref pl), some (.ref a), some (.int (nI L)), some (.int p), some (.int s), some (.ref a), some (.int (nI m)), some (.int (nI i)), o] [] w0 0 0 Q := by
  intro r
  induction r with
  | zero =>
    intro i s o hi hk
    have hi : i = m := by omega
    subst hi
    repeat refine z_i rfl rfl ?_
    refine z_bt rfl rfl (nI_le (by omega) (by omega)) ?_
    exact hk o
  | succ r ih =>
    intro i s o hi hk
    repeat refine z_i rfl rfl ?_
    refine z_bf rfl rfl (nI_ge (by omega) (by omega)) ?_
    repeat refine z_i rfl rfl ?_
    refine z_iald (j := i) rfl ha rfl (by omega) (by omega) ?_
    repeat refine z_i rfl rfl ?_
    have hz : ∀ z : Int32, z = (if s = 0 then (if f i = -1 - p then 1 else 0) else 1) → zx dA d K N M_Places_addOthers 62 [some (.ref pl), some (.ref a), some (.int (nI L)), some (.int p), some (.int s), some (.ref a), some (.int (nI m)), some (.int (nI i)), some (.int (f i))] [.int z] w0 0 0 Q := by
      intro z hz
      subst hz
      repeat refine z_i rfl rfl ?_
      refine z_j rfl ?_
      have := ih (i + 1) (if s = 0 then (if f i = -1 - p then 1 else 0) else 1) (some (.int (f i))) (by omega) hk
      rw [← nI_1] at this
      exact this
    refine z_b rfl rfl (fun h => ?_) (fun h => ?_)
    · replace h : ¬ s = 0 := h
      repeat refine z_i rfl rfl ?_
      refine z_j rfl ?_
      exact hz _ (by rw [if_neg h])
    · replace h : s = 0 := Classical.not_not.mp h
      repeat refine z_i rfl rfl ?_
      refine z_b rfl rfl (fun h1 => ?_) (fun h1 => ?_)
      · replace h1 : ¬ f i = -1 - p := h1
        refine z_i rfl rfl ?_
        exact hz _ (by rw [if_pos h, if_neg h1])
      · replace h1 : f i = -1 - p := Classical.not_not.mp h1
        repeat refine z_i rfl rfl ?_
        refine z_j rfl ?_
        exact hz _ (by rw [if_pos h, if_pos h1])
/-- the other places, from j on, r of them -/
def p_otL (f : Nat → Int32) (m : Nat) : Nat → Nat → List Int32 → List Int32
  | 0, _, l => l
  | r + 1, j, l => p_otL f m r (j + 1) (if p_loL f (nI j) m 0 0 = 0 then l ++ [nI j] else l)
theorem r_addOthers_loop {a m L : Nat} {f : Nat → Int32} {b0 a0 n0 : Int32} (hne : pr ≠ pl) (ha : w a = some (.inl (dA 0, m, .inl f))) (ha1 : a ≠ pl) (ha2 : a ≠ pr) (hm : m ≤ 16) (hL : L ≤ 16) : ∀ (r j : Nat) (l : List Int32) (F : Nat → Int32) (o4 o5 o6 o7 o8 : Option Value), j + r = L → l.length ≤ j → p_row F l → (∀ F' : Nat → Int32, p_row F' (p_otL f m r j l) → Q (.inl none) (pw dA w pl pr (nI (p_otL f m r j l).length) b0 a0 n0 F') 0 0) →
    zx dA d K N M_Places_addOthers 2 [some (.ref pl), some (.ref a), some (.int (nI L)), some (.int (nI j)), o4, o5, o6, o7, o8] [] (pw dA w pl pr (nI l.length) b0 a0 n0 F) 0 0 Q := by
  intro r
  induction r with
  | zero =>
    intro j l F o4 o5 o6 o7 o8 hj hl hF hq
    repeat refine z_i rfl rfl ?_
    refine z_bt rfl rfl (nI_le (by omega) (by omega)) ?_
    exact z_retV rfl (Nat.zero_le _) (Nat.zero_le _) (hq F hF)
  | succ r ih =>
    intro j l F o4 o5 o6 o7 o8 hj hl hF hq
    repeat refine z_i rfl rfl ?_
    refine z_bf rfl rfl (nI_ge (by omega) (by omega)) ?_
    repeat refine z_i rfl rfl ?_
    refine z_get rfl pw_pl rfl ?_
    repeat refine z_i rfl rfl ?_
    refine z_bf rfl rfl (nI_ge (show l.length < 16 by omega) (show 16 < 2 ^ 31 by decide)) ?_
    repeat refine z_i rfl rfl ?_
    refine z_alen 0 rfl ((pw_at ha1 ha2).trans ha) rfl ?_
    refine z_i rfl rfl ?_
    refine z_i rfl rfl ?_
    refine z_i rfl rfl ?_
    have hx := r_lo_loop (d := d) (K := K) (N := N) (Q := Q) (pl := pl) (L := L) (p := nI j) ((pw_at (c := nI l.length) (b := b0) (a := a0) (n := n0) (F := F) ha1 ha2).trans ha) hm m 0 0 o8 (by omega) (fun o' => by
      repeat refine z_i rfl rfl ?_
      refine z_b rfl rfl (fun h => ?_) (fun h => ?_)
      · replace h : ¬ p_loL f (nI j) m 0 0 = 0 := h
        repeat refine z_i rfl rfl ?_
        refine z_j rfl ?_
        have hk := ih (j + 1) l F (some (.int (p_loL f (nI j) m 0 0))) (some (.ref a)) (some (.int (nI m))) (some (.int (nI m))) o' (by omega) (by omega) hF (fun F' h' => by rw [p_otL, if_neg h] at hq; exact hq F' h')
        rw [← nI_1] at hk
        exact hk
      · replace h : p_loL f (nI j) m 0 0 = 0 := Classical.not_not.mp h
        repeat refine z_i rfl rfl ?_
        refine z_get rfl pw_pl rfl ?_
        repeat refine z_i rfl rfl ?_
        refine z_get rfl pw_pl rfl ?_
        repeat refine z_i rfl rfl ?_
        refine z_iast (j := l.length) rfl (pw_pr hne) rfl (by omega) (by omega) ?_
        rw [pw_row hne]
        repeat refine z_i rfl rfl ?_
        refine z_get rfl pw_pl rfl ?_
        repeat refine z_i rfl rfl ?_
        refine z_put rfl pw_pl (Nat.le_of_ble_eq_true rfl) ⟨rfl, rfl⟩ ?_
        repeat refine z_i rfl rfl ?_
        refine z_j rfl ?_
        have hk := ih (j + 1) (l ++ [nI j]) (upd F l.length (nI j)) (some (.int (p_loL f (nI j) m 0 0))) (some (.ref a)) (some (.int (nI m))) (some (.int (nI m))) o' (by omega) (by rw [List.length_append, List.length_singleton]; omega) (p_row_add hF) (fun F' h' => by rw [p_otL, if_pos h] at hq; exact hq F' h')
        rw [List.length_append, List.length_singleton, ← nI_1, ← nI_1, ← pw_up] at hk
        exact hk)
    rw [nI_0] at hx
    exact hx
theorem r_addOthers {a m L : Nat} {f F : Nat → Int32} {b0 a0 n0 : Int32} (hne : pr ≠ pl) (ha : w a = some (.inl (dA 0, m, .inl f))) (ha1 : a ≠ pl) (ha2 : a ≠ pr) (hm : m ≤ 16) (hL : L ≤ 16) (hq : ∀ F' : Nat → Int32, p_row F' (p_otL f m L 0 []) → Q (.inl none) (pw dA w pl pr (nI (p_otL f m L 0 []).length) b0 a0 n0 F') 0 0) :
    zx dA d K N M_Places_addOthers 0 (zargs 9 [.ref pl, .ref a, .int (nI L)]) [] (pw dA w pl pr 0 b0 a0 n0 F) 0 0 Q := by
  refine z_i rfl rfl ?_
  refine z_i rfl rfl ?_
  have := r_addOthers_loop (d := d) (K := K) (N := N) (Q := Q) (b0 := b0) (a0 := a0) (n0 := n0) hne ha ha1 ha2 hm hL L 0 [] F none none none none none (by omega) (by simp) p_row_nil hq
  rw [nI_0, show nI ([] : List Int32).length = 0 from nI_0] at this
  exact this
/-- the places that indexes mean in a vector of L elements; none: wrong indexes -/
def p_find (f : Nat → Int32) (m L : Nat) (na : Bool) : Option (List Int32) :=
  if ¬ (p_svL f m 0 (0, 0, 0)).2.2 = 0 ∧ na = false then none
  else if (p_svL f m 0 (0, 0, 0)).1 = 0 then some (p_thL f m 0 [])
  else if (p_svL f m 0 (0, 0, 0)).2.1 = 0 ∧ (p_svL f m 0 (0, 0, 0)).2.2 = 0 then some (p_otL f m L 0 [])
  else none
theorem r_find {a m L : Nat} {f F : Nat → Int32} {c b0 a0 n0 : Int32} {na : Bool} (hd : 1 ≤ d) (hne : pr ≠ pl) (ha : w a = some (.inl (dA 0, m, .inl f))) (ha1 : a ≠ pl) (ha2 : a ≠ pr) (hm : m ≤ 16) (hL : L ≤ 16)
    (h0 : p_find f m L na = none → ∀ (c b1 a1 n1 : Int32) (F' : Nat → Int32), Q (.inl (some (.int 0))) (pw dA w pl pr c b1 a1 n1 F') 0 0)
    (h1 : ∀ l : List Int32, p_find f m L na = some l → ∀ (b1 a1 n1 : Int32) (F' : Nat → Int32), p_row F' l → Q (.inl (some (.int 1))) (pw dA w pl pr (nI l.length) b1 a1 n1 F') 0 0) :
    zx dA d K N M_Places_find 0 (zargs 4 [.ref pl, .ref a, .int (nI L), .int (if na then 1 else 0)]) [] (pw dA w pl pr c b0 a0 n0 F) 0 0 Q := by
  repeat refine z_i rfl rfl ?_
  refine z_put rfl pw_pl (Nat.le_of_ble_eq_true rfl) ⟨rfl, rfl⟩ ?_
  rw [show va_up (pw dA w pl pr c b0 a0 n0 F) pl (some (.inr (C_Places, ([.ref pr, .int c, .int b0, .int a0, .int n0] : List Value).set 1 (.int 0)))) = pw dA w pl pr 0 b0 a0 n0 F from pw_up]
  repeat refine z_i rfl rfl ?_
  refine z_cVk [.ref a] [] 0 0 0 rfl pw_pl rfl rfl (Nat.le_of_ble_eq_true rfl) (Nat.le_of_ble_eq_true rfl) (by omega) (by omega) (by omega) (r_survey hne ha ha1 ha2 (by omega) ⟨_, rfl, ?_⟩)
  repeat refine z_i rfl rfl ?_
  refine z_get rfl pw_pl rfl ?_
  have hk : ¬ (¬ (p_svL f m 0 (0, 0, 0)).2.2 = 0 ∧ na = false) → zx dA d K N M_Places_find 23 (zargs 4 [.ref pl, .ref a, .int (nI L), .int (if na then 1 else 0)]) [] (pw dA w pl pr 0 (p_svL f m 0 (0, 0, 0)).1 (p_svL f m 0 (0, 0, 0)).2.1 (p_svL f m 0 (0, 0, 0)).2.2 F) 0 0 Q := by
    intro hn
    repeat refine z_i rfl rfl ?_
    refine z_get rfl pw_pl rfl ?_
    refine z_b rfl rfl (fun h => ?_) (fun h => ?_)
    · replace h : ¬ (p_svL f m 0 (0, 0, 0)).1 = 0 := h
      repeat refine z_i rfl rfl ?_
      refine z_get rfl pw_pl rfl ?_
      refine z_b rfl rfl (fun h2 => ?_) (fun h2 => ?_)
      · replace h2 : ¬ (p_svL f m 0 (0, 0, 0)).2.1 = 0 := h2
        repeat refine z_i rfl rfl ?_
        refine z_retZ rfl (Or.inl rfl) (Nat.zero_le _) (Nat.zero_le _) (h0 ?_ _ _ _ _ _)
        rw [p_find, if_neg hn, if_neg h, if_neg (fun q => h2 q.1)]
      · replace h2 : (p_svL f m 0 (0, 0, 0)).2.1 = 0 := Classical.not_not.mp h2
        repeat refine z_i rfl rfl ?_
        refine z_get rfl pw_pl rfl ?_
        refine z_b rfl rfl (fun h3 => ?_) (fun h3 => ?_)
        · replace h3 : (p_svL f m 0 (0, 0, 0)).2.2 = 0 := h3
          repeat refine z_i rfl rfl ?_
          refine z_cVk [.ref a, .int (nI L)] [] 0 0 0 rfl pw_pl rfl rfl (Nat.le_of_ble_eq_true rfl) (Nat.le_of_ble_eq_true rfl) (by omega) (by omega) (by omega) (r_addOthers hne ha ha1 ha2 hm hL (fun F' hF' => ⟨_, rfl, ?_⟩))
          repeat refine z_i rfl rfl ?_
          refine z_retZ rfl (Or.inr rfl) (Nat.zero_le _) (Nat.zero_le _) (h1 _ ?_ _ _ _ _ hF')
          rw [p_find, if_neg hn, if_neg h, if_pos ⟨h2, h3⟩]
        · replace h3 : ¬ (p_svL f m 0 (0, 0, 0)).2.2 = 0 := h3
          repeat refine z_i rfl rfl ?_
          refine z_retZ rfl (Or.inl rfl) (Nat.zero_le _) (Nat.zero_le _) (h0 ?_ _ _ _ _ _)
          rw [p_find, if_neg hn, if_neg h, if_neg (fun q => h3 q.2)]
    · replace h : (p_svL f m 0 (0, 0, 0)).1 = 0 := Classical.not_not.mp h
      repeat refine z_i rfl rfl ?_
      refine z_cVk [.ref a] [] 0 0 0 rfl pw_pl rfl rfl (Nat.le_of_ble_eq_true rfl) (Nat.le_of_ble_eq_true rfl) (by omega) (by omega) (by omega) (r_addThose hne ha ha1 ha2 hm (fun F' hF' => ⟨_, rfl, ?_⟩))
      repeat refine z_i rfl rfl ?_
      refine z_retZ rfl (Or.inr rfl) (Nat.zero_le _) (Nat.zero_le _) (h1 _ ?_ _ _ _ _ hF')
      rw [p_find, if_neg hn, if_pos h]
  refine z_b rfl rfl (fun h => ?_) (fun h => ?_)
  · exact hk (fun q => q.1 h)
  · replace h : ¬ (p_svL f m 0 (0, 0, 0)).2.2 = 0 := h
    repeat refine z_i rfl rfl ?_
    refine z_b rfl rfl (fun h2 => ?_) (fun h2 => ?_)
    · refine hk (fun q => h2 ?_)
      rw [q.2]
      rfl
    · repeat refine z_i rfl rfl ?_
      refine z_retZ rfl (Or.inl rfl) (Nat.zero_le _) (Nat.zero_le _) (h0 ?_ _ _ _ _ _)
      have : na = false := by
        cases na
        · rfl
        · exact absurd (Classical.not_not.mp h2) (by decide)
      rw [p_find, if_pos ⟨h, this⟩]
/-- the length that all the places want -/
def p_reL (l : List Int32) : Nat → Nat → Int32 → Int32
  | 0, _, x => x
  | r + 1, j, x => p_reL l r (j + 1) (p_max x (p_at l j + 1))
theorem r_reach_loop {l : List Int32} {F : Nat → Int32} {b0 a0 n0 : Int32} (hd : 1 ≤ d) (hne : pr ≠ pl) (hl : l.length ≤ 16) (hF : p_row F l) : ∀ (r j : Nat) (x : Int32), j + r = l.length → Q (.inl (some (.int (p_reL l r j x)))) (pw dA w pl pr (nI l.length) b0 a0 n0 F) 0 0 →
    zx dA d K N M_Places_reach 4 [some (.ref pl), some (.int x), some (.int (nI j))] [] (pw dA w pl pr (nI l.length) b0 a0 n0 F) 0 0 Q := by
  intro r
  induction r with
  | zero =>
    intro j x hj hq
    repeat refine z_i rfl rfl ?_
    refine z_get rfl pw_pl rfl ?_
    refine z_bt rfl rfl (nI_le (by omega) (by omega)) ?_
    repeat refine z_i rfl rfl ?_
    exact z_retI rfl (Nat.zero_le _) (Nat.zero_le _) hq
  | succ r ih =>
    intro j x hj hq
    repeat refine z_i rfl rfl ?_
    refine z_get rfl pw_pl rfl ?_
    refine z_bf rfl rfl (nI_ge (by omega) (by omega)) ?_
    repeat refine z_i rfl rfl ?_
    refine z_get rfl pw_pl rfl ?_
    repeat refine z_i rfl rfl ?_
    refine z_iald (j := j) rfl (pw_pr hne) rfl (by omega) (by omega) ?_
    repeat refine z_i rfl rfl ?_
    refine z_cSk [.int x, .int (F j + 1)] [] 0 0 0 rfl rfl rfl (Nat.le_of_ble_eq_true rfl) (Nat.le_of_ble_eq_true rfl) (by omega) (by omega) (by omega) (r_max dA 0 _ _ _ _ ⟨_, rfl, ?_⟩)
    refine z_i rfl rfl ?_
    refine z_i rfl rfl ?_
    refine z_j rfl ?_
    have hk := ih (j + 1) (p_max x (p_at l j + 1)) (by omega) hq
    rw [← nI_1, ← hF j (by omega)] at hk
    exact hk
theorem r_reach {l : List Int32} {F : Nat → Int32} {b0 a0 n0 : Int32} (hd : 1 ≤ d) (hne : pr ≠ pl) (hl : l.length ≤ 16) (hF : p_row F l) (hq : Q (.inl (some (.int (p_reL l l.length 0 0)))) (pw dA w pl pr (nI l.length) b0 a0 n0 F) 0 0) :
    zx dA d K N M_Places_reach 0 (zargs 3 [.ref pl]) [] (pw dA w pl pr (nI l.length) b0 a0 n0 F) 0 0 Q := by
  refine z_i rfl rfl ?_
  refine z_i rfl rfl ?_
  refine z_i rfl rfl ?_
  refine z_i rfl rfl ?_
  have := r_reach_loop (d := d) (K := K) (N := N) (Q := Q) (b0 := b0) (a0 := a0) (n0 := n0) hd hne hl hF l.length 0 0 (by omega) hq
  rw [nI_0] at this
  exact this
/-- what stands at the place p of m elements f -/
def p_el (m : Nat) (f : Nat → Int32) (p : Int32) : Int32 := if p < 0 then pNA else if nI m ≤ p then pNA else f p.toNatClampNeg
theorem r_pick_loop {e a q m : Nat} {l : List Int32} {f F : Nat → Int32} {fs : List Value} {o1 : Option Value} {b0 a0 n0 : Int32} (hd : 4 ≤ d) (hK : 2 ≤ K) (hN : l.length + 1 ≤ N) (hne : pr ≠ pl) (hl : l.length ≤ 16) (hF : p_row F l) (hm : m ≤ 16)
    (he : pw dA w pl pr (nI l.length) b0 a0 n0 F e = some (.inr (C_Evaluator, fs))) (h8 : fs[8]? = some (.ref pl)) (ha : pw dA w pl pr (nI l.length) b0 a0 n0 F a = some (.inl (dA 0, m, .inl f))) (hq0 : pw dA w pl pr (nI l.length) b0 a0 n0 F q = none) (hQ : zvec dA (pw dA w pl pr (nI l.length) b0 a0 n0 F) l.length (fun j => p_el m f (p_at l j)) Q 2 (l.length + 1)) : ∀ (r j : Nat) (G : Nat → Int32) (o : Option Value), j + r = l.length → (∀ i : Nat, i < j → G i = p_el m f (p_at l i)) →
    zx dA d K N M_Evaluator_pick 34 [some (.ref e), some (.ref a), o1, some (.ref q), some (.int (nI j)), o] [] (va_up (pw dA w pl pr (nI l.length) b0 a0 n0 F) q (some (.inl (dA 0, l.length, .inl G)))) 1 l.length Q := by
  intro r
  induction r with
  | zero =>
    intro j G o hj hG
    repeat refine z_i rfl rfl ?_
    refine z_alen 0 rfl (va_up_self _ _ _) rfl ?_
    refine z_bt rfl rfl (nI_le (by omega) (by omega)) ?_
    refine z_new rfl (by omega) (by omega) (fun v hv => ?_)
    obtain ⟨hv1, hv2⟩ := zup_none hv
    repeat refine z_i rfl rfl ?_
    refine z_cIk [.ref q] [.ref v] 3 0 0 rfl rfl rfl (Nat.le_of_ble_eq_true rfl) (Nat.le_of_ble_eq_true rfl) (by omega) (by omega) (by omega) (r_Vector_init_a (by omega) (va_up_self _ _ _) _ ⟨_, rfl, ?_⟩)
    rw [bx_uu]
    refine z_retA rfl rfl (by omega) (by omega) ?_
    exact hQ q v G hq0 hv2 hv1 (fun i hi => hG i (by omega))
  | succ r ih =>
    intro j G o hj hG
    repeat refine z_i rfl rfl ?_
    refine z_alen 0 rfl (va_up_self _ _ _) rfl ?_
    refine z_bf rfl rfl (nI_ge (by omega) (by omega)) ?_
    repeat refine z_i rfl rfl ?_
    refine z_get rfl (zup_at hq0 he) h8 ?_
    refine z_get rfl (zup_at hq0 pw_pl) rfl ?_
    repeat refine z_i rfl rfl ?_
    refine z_iald (j := j) rfl (zup_at hq0 (pw_pr hne)) rfl (by omega) (by omega) ?_
    rw [hF j (by omega)]
    repeat refine z_i rfl rfl ?_
    have hk : ∀ z : Int32, z = p_el m f (p_at l j) → zx dA d K N M_Evaluator_pick 77 [some (.ref e), some (.ref a), o1, some (.ref q), some (.int (nI j)), some (.int (p_at l j))] [.int z, .int (nI j), .ref q] (va_up (pw dA w pl pr (nI l.length) b0 a0 n0 F) q (some (.inl (dA 0, l.length, .inl G)))) 1 l.length Q := by
      intro z hz
      refine z_iast (j := j) rfl (va_up_self _ _ _) rfl (by omega) (by omega) ?_
      rw [bx_uu]
      repeat refine z_i rfl rfl ?_
      refine z_j rfl ?_
      have := ih (j + 1) (upd G j z) (some (.int (p_at l j))) (by omega) (fun i hi => by
        by_cases h : i = j
        · subst h; rw [pk_us]; exact hz
        · rw [pk_un h]; exact hG i (by omega))
      rw [← nI_1] at this
      exact this
    refine z_b rfl rfl (fun h => ?_) (fun h => ?_)
    · replace h : p_at l j < 0 := h
      repeat refine z_i rfl rfl ?_
      exact hk _ (by rw [p_el, if_pos h])
    · replace h : ¬ p_at l j < 0 := h
      repeat refine z_i rfl rfl ?_
      refine z_alen 0 rfl (zup_at hq0 ha) rfl ?_
      refine z_b rfl rfl (fun h1 => ?_) (fun h1 => ?_)
      · replace h1 : nI m ≤ p_at l j := h1
        repeat refine z_i rfl rfl ?_
        exact hk _ (by rw [p_el, if_neg h, if_pos h1])
      · replace h1 : ¬ nI m ≤ p_at l j := h1
        obtain ⟨i, hi1, hi2⟩ := nI_of h
        have hi3 : i < m := by
          rw [hi2, nI_leI (by omega) hi1] at h1
          omega
        repeat refine z_i rfl rfl ?_
        refine z_iald (j := i) rfl (zup_at hq0 ha) hi2 hi3 (by omega) ?_
        refine z_j rfl ?_
        exact hk _ (by rw [p_el, if_neg h, if_neg h1, hi2, nI_clamp hi1])
theorem r_pick {e a b m n : Nat} {f g F : Nat → Int32} {fs : List Value} {c b0 a0 n0 : Int32} (hd : 4 ≤ d) (hK : 2 ≤ K) (hN : 17 ≤ N) (hne : pr ≠ pl) (hm : m ≤ 16) (hn : n ≤ 16) (he : w e = some (.inr (C_Evaluator, fs))) (hel : fs.length = 13) (h8 : fs[8]? = some (.ref pl)) (hp : w pl = some (.inr (C_Places, [.ref pr, .int c, .int b0, .int a0, .int n0]))) (hpr : w pr = some (.inl (dA 0, 16, .inl F)))
    (ha : w a = some (.inl (dA 0, m, .inl f))) (hb : w b = some (.inl (dA 0, n, .inl g))) (har : a ≠ pr) (hbr : b ≠ pr)
    (h0 : p_find g n m true = none → ∀ (c b1 a1 n1 : Int32) (F' : Nat → Int32), Q (.inl (some .null)) (va_up (pw dA w pl pr c b1 a1 n1 F') e (some (.inr (C_Evaluator, fs.set 5 (.int 8))))) 0 0)
    (hlen : ∀ l : List Int32, p_find g n m true = some l → l.length ≤ 16)
    (hQ : ∀ l : List Int32, p_find g n m true = some l → ∀ (c b1 a1 n1 : Int32) (F' : Nat → Int32), zvec dA (pw dA w pl pr c b1 a1 n1 F') l.length (fun j => p_el m f (p_at l j)) Q 2 (l.length + 1)) :
    zx dA d K N M_Evaluator_pick 0 (zargs 6 [.ref e, .ref a, .ref b]) [] w 0 0 Q := by
  have hepl : e ≠ pl := z_ne he hp (by intro q; cases q)
  have hepr : e ≠ pr := z_ne he hpr (by intro q; cases q)
  have hapl : a ≠ pl := z_ne ha hp (by intro q; cases q)
  have hbpl : b ≠ pl := z_ne hb hp (by intro q; cases q)
  repeat refine z_i rfl rfl ?_
  refine z_get rfl he h8 ?_
  repeat refine z_i rfl rfl ?_
  refine z_alen 0 rfl ha rfl ?_
  repeat refine z_i rfl rfl ?_
  refine z_cVk [.ref b, .int (nI m), .int 1] [] 1 0 0 rfl hp rfl rfl (Nat.le_of_ble_eq_true rfl) (Nat.le_of_ble_eq_true rfl) (by omega) (by omega) (by omega) ?_
  have hw := pw_self hp hpr
  have hx := r_find (d := 1) (K := 0) (N := 0) (w := w) (c := c) (b0 := b0) (a0 := a0) (n0 := n0) (F := F) (na := true) (Q := zcont dA d K N M_Evaluator_pick 11 (zargs 6 [.ref e, .ref a, .ref b]) [] 0 0 Q) (by omega) hne hb hbpl hbr hn hm (fun hf c b1 a1 n1 F' => ⟨_, rfl, ?_⟩) (fun l hf b1 a1 n1 F' hF' => ⟨_, rfl, ?_⟩)
  · rw [← hw] at hx
    exact hx
  · refine z_bf rfl rfl (fun q => q rfl) ?_
    repeat refine z_i rfl rfl ?_
    refine z_cVk [.int 8] [] 0 0 0 rfl ((pw_at hepl hepr).trans he) rfl rfl (Nat.le_of_ble_eq_true rfl) (Nat.le_of_ble_eq_true rfl) (by omega) (by omega) (by omega) (r_fail ((pw_at hepl hepr).trans he) hel ⟨_, rfl, ?_⟩)
    exact z_retA rfl rfl (by omega) (by omega) (h0 hf _ _ _ _ _)
  · refine z_bt rfl rfl (by intro q; cases q) ?_
    repeat refine z_i rfl rfl ?_
    refine z_get rfl ((pw_at hepl hepr).trans he) h8 ?_
    refine z_get rfl pw_pl rfl ?_
    have hl := hlen l hf
    refine z_newi (j := l.length) rfl rfl (by omega) (by omega) (by omega) (fun q hq0 => ?_)
    refine z_i rfl rfl ?_
    refine z_i rfl rfl ?_
    refine z_i rfl rfl ?_
    have := r_pick_loop (N := N) (Q := Q) (o1 := some (.ref b)) hd hK (by omega) hne hl hF' hm ((pw_at hepl hepr).trans he) h8 ((pw_at hapl har).trans ha) hq0 (hQ l hf _ _ _ _ _) l.length 0 (fun _ => 0) none (by omega) (fun i hi => by omega)
    rw [nI_0] at this
    rw [show 0 + 0 + l.length = l.length by omega]
    exact this
end ZPM
