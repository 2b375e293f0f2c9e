/-! rows that agree: the same places; combine; evaluateOfTwo -/
section CGR
variable {f g : Nat → Int32}
theorem p_svL_c : ∀ (r j : Nat) (x : Int32 × Int32 × Int32), (∀ i : Nat, i < j + r → f i = g i) → p_svL f r j x = p_svL g r j x := by
  intro r
  induction r with
  | zero => intro j x h; rfl
  | succ r ih =>
    intro j x h
    rw [p_svL, p_svL, h j (by omega), ih (j + 1) _ (fun i hi => h i (by omega))]
theorem p_thL_c : ∀ (r j : Nat) (l : List Int32), (∀ i : Nat, i < j + r → f i = g i) → p_thL f r j l = p_thL g r j l := by
  intro r
  induction r with
  | zero => intro j x h; rfl
  | succ r ih =>
    intro j x h
    rw [p_thL, p_thL, h j (by omega), ih (j + 1) _ (fun i hi => h i (by omega))]
theorem p_loL_c (p : Int32) : ∀ (r j : Nat) (x : Int32), (∀ i : Nat, i < j + r → f i = g i) → p_loL f p r j x = p_loL g p r j x := by
  intro r
  induction r with
  | zero => intro j x h; rfl
  | succ r ih =>
    intro j x h
    rw [p_loL, p_loL, h j (by omega), ih (j + 1) _ (fun i hi => h i (by omega))]
theorem p_otL_c {m : Nat} (h : ∀ i : Nat, i < m → f i = g i) : ∀ (r j : Nat) (l : List Int32), p_otL f m r j l = p_otL g m r j l := by
  intro r
  induction r with
  | zero => intro j x; rfl
  | succ r ih =>
    intro j x
    rw [p_otL, p_otL, p_loL_c (g := g) _ m 0 0 (fun i hi => h i (by omega)), ih]
theorem p_find_c {m L : Nat} {na : Bool} (h : ∀ i : Nat, i < m → f i = g i) : p_find f m L na = p_find g m L na := by
  unfold p_find
  rw [p_svL_c (g := g) m 0 _ (fun i hi => h i (by omega)), p_thL_c (g := g) m 0 _ (fun i hi => h i (by omega)), p_otL_c h]
theorem p_eqL_c {f' g' : Nat → Int32} : ∀ (r j : Nat), (∀ i : Nat, i < j + r → f i = g i) → (∀ i : Nat, i < j + r → f' i = g' i) → p_eqL f f' r j = p_eqL g g' r j := by
  intro r
  induction r with
  | zero => intro j h h'; rfl
  | succ r ih =>
    intro j h h'
    rw [p_eqL, p_eqL, h j (by omega), h' j (by omega), ih (j + 1) (fun i hi => h i (by omega)) (fun i hi => h' i (by omega))]
theorem p_same_c {f' g' : Nat → Int32} {m n : Nat} (h : ∀ i : Nat, i < m → f i = g i) (h' : ∀ i : Nat, i < n → f' i = g' i) : p_same m n f f' = p_same m n g g' := by
  unfold p_same
  by_cases hm : m = n
  · rw [if_pos hm, if_pos hm]
    exact p_eqL_c m 0 (fun i hi => h i (by omega)) (fun i hi => h' i (by omega))
  · rw [if_neg hm, if_neg hm]
theorem p_el_c {m : Nat} {p : Int32} (hm : m < 2 ^ 31) (h : ∀ i : Nat, i < m → f i = g i) : p_el m f p = p_el m g p := by
  unfold p_el
  by_cases h1 : p < 0
  · rw [if_pos h1, if_pos h1]
  · rw [if_neg h1, if_neg h1]
    by_cases h2 : nI m ≤ p
    · rw [if_pos h2, if_pos h2]
    · rw [if_neg h2, if_neg h2]
      obtain ⟨i, hi, rfl⟩ := nI_of h1
      rw [nI_leI hm hi] at h2
      rw [nI_clamp hi]
      exact h i (by omega)
theorem p_thL_len : ∀ (r j : Nat) (l : List Int32), (p_thL f r j l).length ≤ l.length + r := by
  intro r
  induction r with
  | zero => intro j l; exact Nat.le_refl _
  | succ r ih =>
    intro j l
    rw [p_thL]
    split
    · have := ih (j + 1) l
      omega
    · have := ih (j + 1) (l ++ [p_tho (f j)])
      rw [List.length_append, List.length_singleton] at this
      omega
theorem p_otL_len {m : Nat} : ∀ (r j : Nat) (l : List Int32), (p_otL f m r j l).length ≤ l.length + r := by
  intro r
  induction r with
  | zero => intro j l; exact Nat.le_refl _
  | succ r ih =>
    intro j l
    rw [p_otL]
    split
    · have := ih (j + 1) (l ++ [nI j])
      rw [List.length_append, List.length_singleton] at this
      omega
    · have := ih (j + 1) l
      omega
theorem p_find_len {m L : Nat} {na : Bool} {l : List Int32} (h : p_find f m L na = some l) : l.length ≤ max m L := by
  unfold p_find at h
  have h1 := p_thL_len (f := f) m 0 []
  have h2 := p_otL_len (f := f) (m := m) L 0 []
  simp only [List.length_nil] at h1 h2
  split at h
  · cases h
  · split at h
    · cases h; omega
    · split at h
      · cases h; omega
      · cases h
theorem okI_el {m : Nat} {p : Int32} (hm : m < 2 ^ 31) (h : ∀ i : Nat, i < m → okI (f i)) : okI (p_el m f p) := by
  unfold p_el
  by_cases h1 : p < 0
  · rw [if_pos h1]; exact Or.inl rfl
  · rw [if_neg h1]
    by_cases h2 : nI m ≤ p
    · rw [if_pos h2]; exact Or.inl rfl
    · rw [if_neg h2]
      obtain ⟨i, hi, rfl⟩ := nI_of h1
      rw [nI_leI hm hi] at h2
      rw [nI_clamp hi]
      exact h i (by omega)
theorem okI_fst {m : Nat} (h : ∀ i : Nat, i < m → okI (f i)) : okI (p_fst m f) := by
  unfold p_fst
  split
  · exact Or.inl rfl
  · exact h 0 (by omega)
end CGR
section EVH
variable {dA : Nat → ClassId} {c : Nat → Nat} {P : aP} {mk : Nat} {w w' : ww_W} {G G' : gG} {s s' : aS} {D K N d : Nat} {Q : zQ}
theorem CI_tru (h : CI dA c P mk w G s) (x : Int32) : rvO dA c P mk w G s (.ref (if x = 0 then c 7 else c 8)) (e_tru x) := by
  unfold e_tru
  by_cases hx : x = 0
  · rw [if_pos hx, if_pos hx]; exact h.2.2.1.2.2.1
  · rw [if_neg hx, if_neg hx]; exact h.2.2.1.2.2.2.1
theorem r_truthC {x : Int32} (h : CI dA c P mk w G s) (hQ : zend dA c P mk w G s (e_tru x, s) 0 0 Q) : zx dA D K N M_Evaluator_truth 0 (zargs 2 [.ref (c 0), .int x]) [] w 0 0 Q := by
  obtain ⟨a, b, q1⟩ := CI_obj h
  exact r_truth q1 rfl rfl (hQ _ w G 0 0 h (CI_tru h x) LE_refl (by show 0 + pK s ≤ _; omega) (by show 0 + pN s ≤ _; omega))
/-- how a world with other places goes on -/
theorem zend_pl {n b a x : Int32} {F : Nat → Int32} {r : aR} {ck cn : Nat} (h : CI dA c P mk w G s) (hQ : zend dA c P mk w G s r ck cn Q) : zend dA c P mk (pw dA w (c 3) (c 4) n b a x F) G s r ck cn Q := fun v w' G' k' n' hc hv hle h1 h2 => hQ v w' G' k' n' hc hv (LE_trans (CI_pl h).2 hle) h1 h2
theorem zfail_of {x : Int32} {a b : Value} {ck cn : Nat} (h : CI dA c P mk w G s) (hx : okI x) (hev : w (c 0) = some (.inr (C_Evaluator, evF c G s a b))) (hQ : zend dA c P mk w G s (e_fail s x) ck cn Q) : Q (.inl (some .null)) (va_up w (c 0) (some (.inr (C_Evaluator, (evF c G s a b).set 5 (.int x))))) 0 0 := by
  obtain ⟨a0, b0, q1, q2⟩ := id h.1
  rw [hev] at q1
  cases q1
  obtain ⟨h1, h2⟩ := CI_ev (s' := uX s x) h rfl rfl rfl ⟨h.2.2.2.2.2.2.2.1.1, hx⟩ (a := a) (b := b) q2
  exact hQ .null _ G 0 0 h1 rfl h2 (by show 0 + pK s ≤ _; omega) (by show 0 + pN s ≤ _; omega)
theorem r_combine {x e a b : Nat} {xs ys : List Int32} {f g : Nat → Int32} (h : CI dA c P mk w G s) (hD : 5 ≤ D) (hK : 2 ≤ K) (hN : 17 ≤ N) (hx : XP P w x e) (ha : w a = some (.inl (dA 0, xs.length, .inl f))) (hb : w b = some (.inl (dA 0, ys.length, .inl g))) (hf : p_row f xs) (hg : p_row g ys) (ha4 : a ≠ c 4) (hb4 : b ≠ c 4) (hxs : okX xs) (hys : okX ys) (hQ : zend dA c P mk w G s (e_out (e_comb (kd P e) (pc P e) xs ys) s) 2 17 Q) (hke : okE e (kd P e) (pa P e) (pb P e) (pc P e)) (hk : kd P e = 6 ∨ kd P e = 7 ∨ kd P e = 8 ∨ kd P e = 10 ∨ kd P e = 11 ∨ kd P e = 12 ∨ kd P e = 25) :
    zx dA D K N M_Evaluator_combine 0 (zargs 4 [.ref (c 0), .ref x, .ref a, .ref b]) [] w 0 0 Q := by
  obtain ⟨num, hx0⟩ := id hx
  obtain ⟨ea, eb, hev⟩ := CI_obj h
  obtain ⟨h16, hok⟩ := hxs
  obtain ⟨h16', hok'⟩ := hys
  have hretk : ∀ (pc k n : Nat) (L : zV), zT dA M_Evaluator_combine pc = some zretA → k ≤ 2 → n ≤ 17 → ∀ (v : Value) (w' : ww_W), (∃ r : Option Nat, zrf v = some r) → Q (.inl (some v)) w' k n → zx dA D K N M_Evaluator_combine pc L [v] w' k n Q := fun pc k n L hT h1 h2 v w' hr hq => by
    obtain ⟨r, hr⟩ := hr
    exact z_retA hT hr (by omega) (by omega) hq
  have hzv : ∀ (m : Nat) (u : Nat → Int32) (pc : Nat) (L : zV), zT dA M_Evaluator_combine pc = some zretA → m ≤ 16 → zvec dA w m u Q 2 (m + 1) → zvec dA w m u (zcont dA D K N M_Evaluator_combine pc L [] 0 0 Q) 2 (m + 1) := fun m u pc L hT hm hz q v f' h1 h2 h3 h4 => by
    refine ⟨_, rfl, ?_⟩
    have := hz q v f' h1 h2 h3 h4
    rw [Nat.zero_add, Nat.zero_add]
    exact z_retA hT rfl (by omega) (by omega) this
  have hpair : zend dA c P mk w G s (e_out (.inl (e_pair (kd P e) (pc P e) xs ys)) s) 2 17 Q → zx dA D K N M_Evaluator_combine 85 (zargs 4 [.ref (c 0), .ref x, .ref a, .ref b]) [] w 0 0 Q := by
    intro hQ
    unfold e_pair at hQ
    repeat refine z_i rfl rfl ?_
    refine z_cVk [.ref x, .ref a, .ref b] [] 4 2 17 rfl hev rfl rfl (Nat.le_of_ble_eq_true rfl) (Nat.le_of_ble_eq_true rfl) (by omega) (by omega) (by omega) (r_pairUp (by omega) (by omega) (by omega) hev rfl hx0 ha hb (by omega) (by omega) (fun h1 => ⟨_, rfl, ?_⟩) (fun h1 h2 => hzv _ _ _ _ rfl (by omega) ?_))
    · rw [if_pos h1] at hQ
      exact z_retA rfl rfl (by omega) (by omega) (hQ (.ref (c 5)) w G _ _ h (CI_nul h) LE_refl (by show _ + pK s ≤ _; omega) (by show _ + pN s ≤ _; omega))
    · rw [if_neg (fun q => q.elim h1 h2)] at hQ
      refine zvec_of (ck := 2) (cn := 17) h (by omega) (fun j hj => ?_) (by omega) (by omega) ?_
      · exact okI_pair (by rw [hf _ (Nat.mod_lt _ (by omega))]; exact hok _ (Nat.mod_lt _ (by omega))) (by rw [hg _ (Nat.mod_lt _ (by omega))]; exact hok' _ (Nat.mod_lt _ (by omega)))
      · rw [vg_congr (g := fun j => p_pair (kd P e) (pc P e) (p_at xs (j % xs.length)) (p_at ys (j % ys.length))) (fun j hj => by rw [hf _ (Nat.mod_lt _ (by omega)), hg _ (Nat.mod_lt _ (by omega))])]
        exact hQ
  repeat refine z_i rfl rfl ?_
  refine z_get rfl hx0 rfl ?_
  unfold e_comb at hQ
  rcases hk with hk | hk | hk | hk | hk | hk | hk
  · have e1 := hQ
    rw [if_neg (by rw [hk]; decide), if_neg (by rw [hk]; decide), if_neg (by rw [hk]; decide), if_neg (by rw [hk]; decide)] at e1
    refine z_sw rfl (t := 85) (by rw [hk]; rfl) ?_
    exact hpair e1
  · have e1 := hQ
    rw [if_neg (by rw [hk]; decide), if_neg (by rw [hk]; decide), if_neg (by rw [hk]; decide), if_neg (by rw [hk]; decide)] at e1
    refine z_sw rfl (t := 85) (by rw [hk]; rfl) ?_
    exact hpair e1
  · have e1 := hQ
    rw [if_neg (by rw [hk]; decide), if_neg (by rw [hk]; decide), if_neg (by rw [hk]; decide), if_neg (by rw [hk]; decide)] at e1
    refine z_sw rfl (t := 85) (by rw [hk]; rfl) ?_
    exact hpair e1
  · rw [if_pos hk] at hQ
    refine z_sw rfl (t := 48) (by rw [hk]; rfl) ?_
    repeat refine z_i rfl rfl ?_
    refine z_cVk [.ref a, .ref b] [] 4 2 17 rfl hev rfl rfl (Nat.le_of_ble_eq_true rfl) (Nat.le_of_ble_eq_true rfl) (by omega) (by omega) (by omega) (r_join (by omega) (by omega) (by omega) hev rfl ha hb h16 h16' (fun h1 => ⟨_, rfl, ?_⟩) (fun h1 => hzv _ _ _ _ rfl h1 ?_))
    · unfold e_join at hQ
      rw [if_neg (by omega)] at hQ
      exact z_retA rfl rfl (by omega) (by omega) (zfail_of h (by decide) hev hQ)
    · unfold e_join at hQ
      rw [if_pos h1] at hQ
      refine zvec_of (ck := 2) (cn := 17) h h1 (fun j hj => ?_) (by omega) (by omega) ?_
      · show okI (if j < xs.length then f j else g (j - xs.length))
        split
        · rw [hf j (by omega)]; exact hok j (by omega)
        · rw [hg _ (by omega)]; exact hok' _ (by omega)
      · rw [vg_congr (g := fun j => if j < xs.length then p_at xs j else p_at ys (j - xs.length)) (fun j hj => by
          show (if j < xs.length then f j else g (j - xs.length)) = if j < xs.length then p_at xs j else p_at ys (j - xs.length)
          split
          · rw [hf j (by omega)]
          · rw [hg _ (by omega)])]
        exact hQ
  · rw [if_neg (by rw [hk]; decide), if_pos hk] at hQ
    refine z_sw rfl (t := 55) (by rw [hk]; rfl) ?_
    repeat refine z_i rfl rfl ?_
    refine z_cSk [.ref a] [.ref (c 0)] 0 0 0 rfl rfl rfl (Nat.le_of_ble_eq_true rfl) (Nat.le_of_ble_eq_true rfl) (by omega) (by omega) (by omega) (r_first ha (by omega) _ ⟨_, rfl, ?_⟩)
    repeat refine z_i rfl rfl ?_
    refine z_cSk [.ref b] [.int (p_fst xs.length f), .ref (c 0)] 0 0 0 rfl rfl rfl (Nat.le_of_ble_eq_true rfl) (Nat.le_of_ble_eq_true rfl) (by omega) (by omega) (by omega) (r_first hb (by omega) _ ⟨_, rfl, ?_⟩)
    rw [p_fst_congr (g := p_at xs) (fun j hj => hf j hj), p_fst_congr (g := p_at ys) (fun j hj => hg j hj)]
    have hxo := okI_fst hok
    have hyo := okI_fst hok'
    generalize p_fst xs.length (p_at xs) = x1 at hQ hxo ⊢
    generalize p_fst ys.length (p_at ys) = y1 at hQ hyo ⊢
    unfold e_rng at hQ
    refine z_cVk [.int x1, .int y1] [] 4 2 17 rfl hev rfl rfl (Nat.le_of_ble_eq_true rfl) (Nat.le_of_ble_eq_true rfl) (by omega) (by omega) (by omega) (r_range (by omega) (by omega) (by omega) hev rfl (fun h1 => ⟨_, rfl, ?_⟩) (fun h1 h2 h3 => ⟨_, rfl, ?_⟩) (fun h1 h2 h3 => ?_) (fun h1 h2 cc h3 h4 => hzv _ _ _ _ rfl (by omega) ?_))
    · rw [if_pos h1] at hQ
      exact z_retA rfl rfl (by omega) (by omega) (zfail_of h (by decide) hev hQ)
    · rw [if_neg (fun q => q.elim h1 h2), if_neg h3] at hQ
      exact z_retA rfl rfl (by omega) (by omega) (zfail_of h (by decide) hev hQ)
    · rw [Int32.lt_iff_toInt_lt, (abs_v hxo hyo h1 h2).1, show (0 : Int32).toInt = 0 by decide] at h3
      omega
    · rw [if_neg (fun q => q.elim h1 h2), if_pos (by rw [h4]; exact nI_lt h3 (show 16 < 2 ^ 31 by decide)), h4, tN_nI (by omega)] at hQ
      exact zvec_of (ck := 2) (cn := 17) h (by omega) (okI_rg hxo hyo h1 h2 h4 (by omega)) (by omega) (by omega) hQ
  · rw [if_neg (by rw [hk]; decide), if_neg (by rw [hk]; decide), if_pos hk] at hQ
    refine z_sw rfl (t := 68) (by rw [hk]; rfl) ?_
    repeat refine z_i rfl rfl ?_
    obtain ⟨n1, b1, a1, x1, F1, p1, p2⟩ := id h.2.2.2.1
    have hne : c 4 ≠ c 3 := z_ne p2 p1 (by intro q; cases q)
    have hfc : p_find g ys.length xs.length true = p_find (p_at ys) ys.length xs.length true := p_find_c hg
    unfold e_pick at hQ
    have hez : ∀ {n b a x : Int32} {F : Nat → Int32}, pw dA w (c 3) (c 4) n b a x F (c 0) = some (.inr (C_Evaluator, evF c G s ea eb)) := fun {n b a x F} => (pw_at (z_ne hev p1 (by intro q; cases q)) (z_ne hev p2 (by intro q; cases q))).trans hev
    refine z_cVk [.ref a, .ref b] [] 4 2 17 rfl hev rfl rfl (Nat.le_of_ble_eq_true rfl) (Nat.le_of_ble_eq_true rfl) (by omega) (by omega) (by omega) (r_pick (by omega) (by omega) (by omega) hne h16 h16' hev rfl rfl p1 p2 ha hb ha4 hb4 (fun h1 cc b2 a2 n2 F' => ⟨_, rfl, ?_⟩) (fun l h1 => by have := p_find_len h1; omega) (fun l h1 cc b2 a2 n2 F' => ?_))
    · rw [← hfc, h1] at hQ
      exact z_retA rfl rfl (by omega) (by omega) (zfail_of (CI_pl h).1 (by decide) hez (zend_pl h hQ))
    · rw [← hfc, h1] at hQ
      have hl16 : l.length ≤ 16 := by have := p_find_len h1; omega
      intro q v f' z1 z2 z3 z4
      refine ⟨_, rfl, ?_⟩
      rw [Nat.zero_add, Nat.zero_add]
      refine z_retA rfl rfl (by omega) (by omega) (zvec_of (ck := 2) (cn := 17) (CI_pl h).1 hl16 (fun j hj => okI_el (by omega) (fun i hi => by rw [hf i hi]; exact hok i hi)) (by omega) (by omega) ?_ q v f' z1 z2 z3 z4)
      refine zend_pl h ?_
      rw [vg_congr (g := fun j => p_el xs.length (p_at xs) (p_at l j)) (fun j hj => p_el_c (by omega) hf)]
      exact hQ
  · rw [if_neg (by rw [hk]; decide), if_neg (by rw [hk]; decide), if_neg (by rw [hk]; decide), if_pos hk] at hQ
    refine z_sw rfl (t := 75) (by rw [hk]; rfl) ?_
    repeat refine z_i rfl rfl ?_
    refine z_cSk [.ref a, .ref b] [.ref (c 0)] 0 0 0 rfl rfl rfl (Nat.le_of_ble_eq_true rfl) (Nat.le_of_ble_eq_true rfl) (by omega) (by omega) (by omega) (r_same ha hb (by omega) (by omega) _ ⟨_, rfl, ?_⟩)
    rw [p_same_c hf hg]
    refine z_cVk [.int (p_same xs.length ys.length (p_at xs) (p_at ys))] [] 0 0 0 rfl hev rfl rfl (Nat.le_of_ble_eq_true rfl) (Nat.le_of_ble_eq_true rfl) (by omega) (by omega) (by omega) (r_truthC h ?_)
    intro v w' G' k' n' hc hv hle h1 h2
    obtain ⟨rf, hrf⟩ := rvO_rf hv
    refine ⟨_, rfl, ?_⟩
    replace h1 : k' + pK s ≤ pK s + 0 := h1
    replace h2 : n' + pN s ≤ pN s + 0 := h2
    refine z_retA rfl hrf (by omega) (by omega) (hQ v w' G' _ _ hc ?_ hle (by show _ + pK s ≤ _; omega) (by show _ + pN s ≤ _; omega))
    show rvO dA c P mk w' G' s v (some (.inl (if p_same xs.length ys.length (p_at xs) (p_at ys) = 0 then [0] else [1])))
    unfold e_tru at hv
    by_cases h0 : p_same xs.length ys.length (p_at xs) (p_at ys) = 0
    · rw [if_pos h0]; rw [if_pos h0] at hv; exact hv
    · rw [if_neg h0]; rw [if_neg h0] at hv; exact hv
end EVH
