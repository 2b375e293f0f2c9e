/-! evaluateOfTwo; replace -/
section RPC
variable {f g : Nat → Int32}
theorem p_svL_no : ∀ (r j : Nat) (x : Int32 × Int32 × Int32), ((p_svL f r j x).1 = 0 → x.1 = 0 ∧ ∀ i : Nat, j ≤ i → i < j + r → f i = pNA ∨ 0 ≤ f i) ∧ ((p_svL f r j x).2.2 = 0 → x.2.2 = 0 ∧ ∀ i : Nat, j ≤ i → i < j + r → ¬ f i = pNA) := by
  intro r
  induction r with
  | zero => intro j x; exact ⟨fun h => ⟨h, fun i h1 h2 => by omega⟩, fun h => ⟨h, fun i h1 h2 => by omega⟩⟩
  | succ r ih =>
    intro j x
    rw [p_svL]
    obtain ⟨h1, h2⟩ := ih (j + 1) (p_sv (f j) x)
    constructor
    · intro h
      obtain ⟨h3, h4⟩ := h1 h
      unfold p_sv at h3
      by_cases hn : f j = pNA
      · rw [if_pos hn] at h3
        exact ⟨h3, fun i hi1 hi2 => if hij : i = j then by subst hij; exact Or.inl hn else h4 i (by omega) (by omega)⟩
      · rw [if_neg hn] at h3
        by_cases h0 : 0 ≤ f j
        · rw [if_pos h0] at h3
          refine ⟨?_, fun i hi1 hi2 => if hij : i = j then by subst hij; exact Or.inr h0 else h4 i (by omega) (by omega)⟩
          split at h3
          · exact h3
          · exact h3
        · rw [if_neg h0] at h3
          exact absurd h3 (by show ¬ (1 : Int32) = 0; decide)
    · intro h
      obtain ⟨h3, h4⟩ := h2 h
      unfold p_sv at h3
      by_cases hn : f j = pNA
      · rw [if_pos hn] at h3
        exact absurd h3 (by show ¬ (1 : Int32) = 0; decide)
      · rw [if_neg hn] at h3
        refine ⟨?_, fun i hi1 hi2 => if hij : i = j then by subst hij; exact hn else h4 i (by omega) (by omega)⟩
        split at h3
        · split at h3
          · exact h3
          · exact h3
        · exact h3
theorem p_thL_mem : ∀ (r j : Nat) (l : List Int32) (x : Int32), x ∈ p_thL f r j l → x ∈ l ∨ ∃ i : Nat, j ≤ i ∧ i < j + r ∧ ¬ f i = 0 ∧ x = p_tho (f i) := by
  intro r
  induction r with
  | zero => intro j l x h; exact Or.inl h
  | succ r ih =>
    intro j l x h
    rw [p_thL] at h
    rcases ih _ _ _ h with h1 | ⟨i, h1, h2, h3, h4⟩
    · split at h1
      · exact Or.inl h1
      · rename_i h0
        rcases List.mem_append.mp h1 with h2 | h2
        · exact Or.inl h2
        · exact Or.inr ⟨j, Nat.le_refl _, by omega, h0, List.mem_singleton.mp h2⟩
    · exact Or.inr ⟨i, by omega, by omega, h3, h4⟩
theorem p_otL_mem {m : Nat} : ∀ (r j : Nat) (l : List Int32) (x : Int32), x ∈ p_otL f m r j l → x ∈ l ∨ ∃ i : Nat, j ≤ i ∧ i < j + r ∧ x = nI i := by
  intro r
  induction r with
  | zero => intro j l x h; exact Or.inl h
  | succ r ih =>
    intro j l x h
    rw [p_otL] at h
    rcases ih _ _ _ h with h1 | ⟨i, h1, h2, h3⟩
    · split at h1
      · rcases List.mem_append.mp h1 with h2 | h2
        · exact Or.inl h2
        · exact Or.inr ⟨j, Nat.le_refl _, by omega, List.mem_singleton.mp h2⟩
      · exact Or.inl h1
    · exact Or.inr ⟨i, by omega, by omega, h3⟩
theorem p_at_mem {l : List Int32} {i : Nat} (h : i < l.length) : p_at l i ∈ l := by
  unfold p_at
  rw [List.getD_eq_getElem?_getD, List.getElem?_eq_getElem h]
  exact List.getElem_mem h
theorem p_find_pos {m L : Nat} {l : List Int32} (hL : L ≤ 16) (h : p_find f m L false = some l) : ∀ i : Nat, i < l.length → 0 ≤ (p_at l i).toInt ∧ (p_at l i).toInt < 2 ^ 31 - 1 := by
  intro i hi
  have hmem := p_at_mem hi
  generalize p_at l i = x at hmem
  unfold p_find at h
  obtain ⟨g1, g2⟩ := p_svL_no (f := f) m 0 (0, 0, 0)
  split at h
  · cases h
  · rename_i hna
    have hn0 : (p_svL f m 0 (0, 0, 0)).2.2 = 0 := Classical.byContradiction fun q => hna ⟨q, rfl⟩
    split at h
    · rename_i hb
      cases h
      rcases p_thL_mem _ _ _ _ hmem with h1 | ⟨k, h1, h2, h3, rfl⟩
      · cases h1
      · have h4 := (g2 hn0).2 k h1 h2
        have h5 := ((g1 hb).2 k h1 h2).resolve_left h4
        unfold p_tho
        rw [if_neg h4]
        rw [Int32.le_iff_toInt_le, show (0 : Int32).toInt = 0 by decide] at h5
        have h6 := i32_b (f k)
        have h7 := i32_ne0 h3
        rw [i32_sub (by rw [show (1 : Int32).toInt = 1 by decide]; omega) (by rw [show (1 : Int32).toInt = 1 by decide]; omega), show (1 : Int32).toInt = 1 by decide]
        omega
    · split at h
      · cases h
        rcases p_otL_mem _ _ _ _ hmem with h1 | ⟨k, h1, h2, rfl⟩
        · cases h1
        · rw [nI_toInt (by omega)]
          omega
      · cases h
theorem p_rpL_c {l : List Int32} {n : Nat} (hn : 0 < n) (h : ∀ k : Nat, k < n → f k = g k) {i : Nat} : ∀ (r j : Nat) (A B : Nat → Int32), A i = B i → p_rpL l f n r j A i = p_rpL l g n r j B i := by
  intro r
  induction r with
  | zero => intro j A B hAB; exact hAB
  | succ r ih =>
    intro j A B hAB
    rw [p_rpL, p_rpL]
    refine ih _ _ _ ?_
    rw [h _ (Nat.mod_lt _ hn)]
    by_cases hi : i = (p_at l j).toNatClampNeg
    · rw [hi, pk_us, pk_us]
    · rw [pk_un hi, pk_un hi]; exact hAB
theorem okI_rpL {l : List Int32} {n : Nat} (hn : 0 < n) (h : ∀ k : Nat, k < n → okI (g k)) {i : Nat} : ∀ (r j : Nat) (A : Nat → Int32), okI (A i) → okI (p_rpL l g n r j A i) := by
  intro r
  induction r with
  | zero => intro j A hA; exact hA
  | succ r ih =>
    intro j A hA
    rw [p_rpL]
    refine ih _ _ ?_
    by_cases hi : i = (p_at l j).toNatClampNeg
    · rw [hi, pk_us]; exact h _ (Nat.mod_lt _ hn)
    · rw [pk_un hi]; exact hA
end RPC
section EVI
variable {dA : Nat → ClassId} {c : Nat → Nat} {P : aP} {mk : Nat} {w w' : ww_W} {G G' : gG} {s s' : aS} {D K N d : Nat} {Q : zQ}
/-- not both vectors -/
def e_nv (u v : aV) : Prop := ∀ xs ys : List Int32, ¬ (u = .inl xs ∧ v = .inl ys)
theorem rv_eq {u v : aV} {a b : Nat} (h : CI dA c P mk w G s) (hu : rv dA c P mk w G s (.ref a) u) (hv : rv dA c P mk w G s (.ref b) v) (hn : e_nv u v) : e_eqv u v = if a = b then 1 else 0 := by
  cases u with
  | inl xs =>
    cases v with
    | inl ys => exact absurd ⟨rfl, rfl⟩ (hn xs ys)
    | inr g =>
      obtain ⟨a1, q, f, p1, p2, _⟩ := hu
      cases p1
      obtain ⟨p3, p4, _⟩ := hv
      cases p3
      rw [if_neg (z_ne p2 p4 (by intro q; cases q))]
      rfl
  | inr f =>
    cases v with
    | inl ys =>
      obtain ⟨a1, q, f', p1, p2, _⟩ := hv
      cases p1
      obtain ⟨p3, p4, _⟩ := hu
      cases p3
      rw [if_neg (z_ne p4 p2 (by intro q; cases q))]
      rfl
    | inr g =>
      obtain ⟨p3, p4, p5, p6, _⟩ := hu
      cases p3
      obtain ⟨q3, q4, q5, q6, _⟩ := hv
      cases q3
      by_cases he : f.2.2 = g.2.2
      · rw [he, if_pos rfl]
        exact if_pos he
      · rw [if_neg (fun q => he (h.2.2.2.2.2.1.2.2.1 _ _ p6 q6 q))]
        exact if_neg he
theorem rv_cls {u : aV} {a : Nat} (hu : rv dA c P mk w G s (.ref a) u) : match u with
    | .inl _ => ∃ fs : List Value, w a = some (.inr (5, fs))
    | .inr _ => ∃ fs : List Value, w a = some (.inr (7, fs)) := by
  cases u with
  | inl xs =>
    obtain ⟨a1, q, f, p1, p2, _⟩ := hu
    cases p1
    exact ⟨_, p2⟩
  | inr f =>
    obtain ⟨p3, p4, p5, p6, _⟩ := hu
    cases p3
    exact ⟨_, p4⟩
theorem r_ofTwo {x e i : Nat} {op : Int32} (IH : evOK dA c P mk d) (h : CI dA c P mk w G s) (hD : dD d + 1 ≤ D) (hK : pK s + 2 ≤ K) (hN : pN s + 17 ≤ N) (hop : op = nI (40 - d)) (he : e < mk) (hi : i ≤ sN s) (hx : XP P w x e) (hk3 : kd P e = 6 ∨ kd P e = 7 ∨ kd P e = 8 ∨ kd P e = 10 ∨ kd P e = 11 ∨ kd P e = 12 ∨ kd P e = 25) (hQ : zend dA c P mk w G s (e_two P (e_ev P d) s e i) 2 17 Q) :
    zx dA D K N M_Evaluator_evaluateOfTwo 0 (zargs 8 [.ref (c 0), .ref x, .ref (ge G i), .int op]) [] w 0 0 Q := by
  obtain ⟨num, hx0⟩ := id hx
  obtain ⟨ea, eb, hev⟩ := CI_obj h
  obtain ⟨ho, h120⟩ := CI_okE h he
  obtain ⟨hoa, hob⟩ := ho.2.2.2.2.2.2.2.1 (by rcases hk3 with q | q | q | q | q | q | q <;> simp [q])
  obtain ⟨ha1, ha2⟩ := okH_t hoa (by omega)
  obtain ⟨hb1, hb2⟩ := okH_t hob (by omega)
  have hd8 : 8 ≤ dD d := by unfold dD; omega
  unfold e_two at hQ
  repeat refine z_i rfl rfl ?_
  refine z_get rfl hx0 rfl ?_
  repeat refine z_i rfl rfl ?_
  refine z_cVk [.int (pa P e), .ref (ge G i), .int op] [] (dD d) (K) (N) rfl hev rfl rfl (Nat.le_of_ble_eq_true rfl) (Nat.le_of_ble_eq_true rfl) (by omega) (by omega) (by omega) (IH _ G s (tN (pa P e)) i (K) (N) _ _ _ h (by omega) hi (by omega) (by omega) ha1 hop ?_)
  generalize e_ev P d s (tN (pa P e)) i = r1 at hQ ⊢
  obtain ⟨r1, s1⟩ := r1
  intro v1 w1 G1 k1 n1 hc1 hv1 hle1 hk1 hn1
  refine ⟨_, rfl, ?_⟩
  replace hk1 : k1 + pK s1 ≤ pK s + 0 := hk1
  replace hn1 : n1 + pN s1 ≤ pN s + 0 := hn1
  replace hc1 : CI dA c P mk w1 G1 s1 := hc1
  replace hle1 : LEx c _ _ _ w1 G1 s1 := hle1
  have hi1 : i ≤ sN s1 := Nat.le_trans hi hle1.2.2.2.2.1
  have hxx1 := XP_le hle1 hx
  obtain ⟨num1, hx1⟩ := id hxx1
  obtain ⟨ea1, eb1, hev1⟩ := CI_obj hc1
  cases r1 with
  | none =>
    replace hv1 : v1 = .null := hv1
    subst hv1
    repeat refine z_i rfl rfl ?_
    refine z_bf rfl rfl (fun q => q) ?_
    repeat refine z_i rfl rfl ?_
    exact z_retA rfl rfl (by omega) (by omega) (hQ .null w1 G1 _ _ hc1 rfl hle1 (by show _ + pK s1 ≤ _; omega) (by show _ + pN s1 ≤ _; omega))
  | some y1 =>
    replace hv1 : rv dA c P mk w1 G1 s1 v1 y1 := hv1
    obtain ⟨a, rfl⟩ := rv_ref hv1
    rw [← (hle1.2.1 i hi).1]
    replace hQ : zend dA c P mk w G s (e_bd (e_ev P d s1 (tN (pb P e)) i) (fun v s2 => e_cb P e y1 v s2)) 2 17 Q := hQ
    repeat refine z_i rfl rfl ?_
    refine z_bt rfl rfl trivial ?_
    repeat refine z_i rfl rfl ?_
    refine z_get rfl hx1 rfl ?_
    repeat refine z_i rfl rfl ?_
    refine z_cVk [.int (pb P e), .ref (ge G1 i), .int op] [] (dD d) (K - k1) (N - n1) rfl hev1 rfl rfl (Nat.le_of_ble_eq_true rfl) (Nat.le_of_ble_eq_true rfl) (by omega) (by omega) (by omega) (IH _ G1 s1 (tN (pb P e)) i (K - k1) (N - n1) _ _ _ hc1 (by omega) hi1 (by omega) (by omega) hb1 hop ?_)
    generalize e_ev P d s1 (tN (pb P e)) i = r2 at hQ ⊢
    obtain ⟨r2, s2⟩ := r2
    intro v2 w2 G2 k2 n2 hc2 hv2 hle2 hk2 hn2
    refine ⟨_, rfl, ?_⟩
    replace hk2 : k2 + pK s2 ≤ pK s1 + 0 := hk2
    replace hn2 : n2 + pN s2 ≤ pN s1 + 0 := hn2
    replace hc2 : CI dA c P mk w2 G2 s2 := hc2
    replace hle2 : LEx c _ _ _ w2 G2 s2 := hle2
    have hxx2 := XP_le hle2 hxx1
    obtain ⟨num2, hx2⟩ := id hxx2
    obtain ⟨ea2, eb2, hev2⟩ := CI_obj hc2
    have hle02 := LE_trans hle1 hle2
    cases r2 with
    | none =>
      replace hv2 : v2 = .null := hv2
      subst hv2
      repeat refine z_i rfl rfl ?_
      refine z_bf rfl rfl (fun q => q) ?_
      repeat refine z_i rfl rfl ?_
      exact z_retA rfl rfl (by omega) (by omega) (hQ .null w2 G2 _ _ hc2 rfl hle02 (by show _ + pK s2 ≤ _; omega) (by show _ + pN s2 ≤ _; omega))
    | some y2 =>
      replace hv2 : rv dA c P mk w2 G2 s2 v2 y2 := hv2
      obtain ⟨b, rfl⟩ := rv_ref hv2
      replace hv1 := rv_le hle2 hv1
      replace hQ : zend dA c P mk w G s (e_cb P e y1 y2 s2) 2 17 Q := hQ
      have h84 : ∀ o6 : Option Value, e_nv y1 y2 → zend dA c P mk w G s (if kd P e = 25 then (e_tru (e_eqv y1 y2), s2) else e_fail s2 3) 2 17 Q → zx dA D K N M_Evaluator_evaluateOfTwo 84 [some (.ref (c 0)), some (.ref x), some (.ref (ge G1 i)), some (.int op), some (.ref a), some (.ref b), o6, none] [] w2 (0 + k1 + k2) (0 + n1 + n2) Q := by
        intro o6 hnv hQ
        repeat refine z_i rfl rfl ?_
        refine z_get rfl hx2 rfl ?_
        repeat refine z_i rfl rfl ?_
        refine z_b rfl rfl (fun h5 => ?_) (fun h5 => ?_)
        · rw [if_neg h5] at hQ
          repeat refine z_i rfl rfl ?_
          refine z_cVk [.int 3] [] 0 0 0 rfl hev2 rfl rfl (Nat.le_of_ble_eq_true rfl) (Nat.le_of_ble_eq_true rfl) (by omega) (by omega) (by omega) (r_failC hc2 (zend_ret rfl hle02 (by omega) (by omega) (by omega) (by omega) hQ))
        · rw [if_pos (Classical.not_not.mp h5), rv_eq hc2 hv1 hv2 hnv] at hQ
          repeat refine z_i rfl rfl ?_
          have h106 : ∀ z : Int32, z = (if a = b then 1 else 0) → zx dA D K N M_Evaluator_evaluateOfTwo 106 [some (.ref (c 0)), some (.ref x), some (.ref (ge G1 i)), some (.int op), some (.ref a), some (.ref b), o6, none] [.int z, .ref (c 0)] w2 (0 + k1 + k2) (0 + n1 + n2) Q := by
            intro z hz
            subst hz
            refine z_cVk [.int (if a = b then 1 else 0)] [] 0 0 0 rfl hev2 rfl rfl (Nat.le_of_ble_eq_true rfl) (Nat.le_of_ble_eq_true rfl) (by omega) (by omega) (by omega) (r_truthC hc2 ?_)
            intro v' w' G' k' n' hc hv hle h1 h2
            obtain ⟨rf, hrf⟩ := rvO_rf hv
            refine ⟨some v', rfl, ?_⟩
            replace h1 : k' + pK s2 ≤ pK s2 + 0 := h1
            replace h2 : n' + pN s2 ≤ pN s2 + 0 := h2
            refine z_j rfl ?_
            exact z_retA rfl hrf (by omega) (by omega) (hQ v' w' G' _ _ hc hv (LE_trans hle02 hle) (by show _ + pK s2 ≤ _; omega) (by show _ + pN s2 ≤ _; omega))
          refine z_b rfl rfl (fun h6 => ?_) (fun h6 => ?_)
          · have hab : ¬ a = b := fun q => by
              replace h6 : ¬ some a = some b := h6
              exact h6 (by rw [q])
            refine z_i rfl rfl ?_
            exact h106 _ (by rw [if_neg hab])
          · have hab : a = b := by
              replace h6 : ¬ ¬ some a = some b := h6
              exact Option.some.inj (Classical.not_not.mp h6)
            refine z_i rfl rfl ?_
            refine z_j rfl ?_
            exact h106 _ (by rw [if_pos hab])
      have hcl1 := rv_cls hv1
      have hcl2 := rv_cls hv2
      repeat refine z_i rfl rfl ?_
      refine z_bt rfl rfl trivial ?_
      repeat refine z_i rfl rfl ?_
      cases y1 with
      | inr f1 =>
        obtain ⟨fs1, hcl1⟩ := hcl1
        refine z_instF rfl (by simp) hcl1 ?_
        refine z_bt rfl rfl rfl ?_
        refine h84 none (fun xs ys q => by cases q.1) ?_
        cases y2 <;> exact hQ
      | inl xs =>
        obtain ⟨fs1, hcl1⟩ := hcl1
        refine z_instY rfl (by simp) hcl1 ?_
        refine z_bf rfl rfl (by intro q; cases q) ?_
        repeat refine z_i rfl rfl ?_
        refine z_cast rfl (by simp) hcl1 ?_
        repeat refine z_i rfl rfl ?_
        cases y2 with
        | inr f2 =>
          obtain ⟨fs2, hcl2⟩ := hcl2
          refine z_instF rfl (by simp) hcl2 ?_
          refine z_bt rfl rfl rfl ?_
          exact h84 _ (fun xs ys q => by cases q.2) hQ
        | inl ys =>
          obtain ⟨fs2, hcl2⟩ := hcl2
          refine z_instY rfl (by simp) hcl2 ?_
          refine z_bf rfl rfl (by intro q; cases q) ?_
          repeat refine z_i rfl rfl ?_
          refine z_cast rfl (by simp) hcl2 ?_
          repeat refine z_i rfl rfl ?_
          obtain ⟨a', q1, f1, p1, p2, p3, p4, p5, p6⟩ := hv1
          cases p1
          obtain ⟨b', q2, f2, t1, t2, t3, t4, t5, t6⟩ := hv2
          cases t1
          refine z_get rfl p2 rfl ?_
          repeat refine z_i rfl rfl ?_
          refine z_get rfl t2 rfl ?_
          refine z_cVk [.ref x, .ref q1, .ref q2] [] 5 2 17 rfl hev2 rfl rfl (Nat.le_of_ble_eq_true rfl) (Nat.le_of_ble_eq_true rfl) (by omega) (by omega) (by omega) (r_combine hc2 (by omega) (by omega) (by omega) hxx2 p3 t3 p4 t4 p5.1 t5.1 p6 t6 (zend_ret (ck := 2) (cn := 17) rfl hle02 (by omega) (by omega) (by omega) (by omega) hQ) ho hk3)
end EVI
