/-! read, assign, elementsOf, evaluateOfOne, conditions -/
section EVF
variable {dA : Nat → ClassId} {c : Nat → Nat} {P : aP} {mk : Nat} {w w' : ww_W} {G G' : gG} {s s' : aS} {D K N d : Nat} {Q : zQ}
theorem tN_nI {j : Nat} (h : j < 2 ^ 31) : tN (nI j) = j := nI_clamp h
theorem okH_t {m : Nat} {x : Int32} (h : okH m x) (hm : m ≤ 120) : x = nI (tN x) ∧ tN x < m := by
  obtain ⟨j, h1, rfl⟩ := h
  rw [tN_nI (by omega)]
  exact ⟨rfl, h1⟩
theorem okV_t {x : Int32} (h : okV x) : x = nI (tN x) ∧ tN x < 10 := by
  obtain ⟨j, h1, rfl⟩ := h
  rw [tN_nI (by omega)]
  exact ⟨rfl, h1⟩
theorem CI_okE {e : Nat} (h : CI dA c P mk w G s) (he : e < mk) : okE e (kd P e) (pa P e) (pb P e) (pc P e) ∧ mk ≤ 120 := by
  obtain ⟨hh, h1, h2, h3, h4⟩ := h.2.1
  exact ⟨(h4 e he).1, h3⟩
theorem CI_row {i : Nat} (h : CI dA c P mk w G s) (hi : i ≤ sN s) : ∃ (ou ca : Value) (hh : Nat → Option Nat), w (ge G i) = some (.inr (C_Env, [.ref (gh G i), ou, ca, .int (nI (sG s i)), .int (if sO s i then 1 else 0)])) ∧ w (gh G i) = some (.inl (dA 4, 10, .inr (.inr (.inr (.inr hh))))) := by
  obtain ⟨ou, ca, hh, q1, q2, q3, q4⟩ := h.2.2.2.2.1 i hi
  exact ⟨ou, ca, hh, q1, q2⟩
/-- a new vector is an end -/
theorem zvec_of {m ck cn k n : Nat} {g : Nat → Int32} (h : CI dA c P mk w G s) (hm : m ≤ 16) (hok : ∀ j : Nat, j < m → okI (g j)) (hk : k ≤ ck) (hn : n ≤ cn) (hQ : zend dA c P mk w G s (some (.inl (vg m g)), s) ck cn Q) : zvec dA w m g Q k n := by
  intro q v f hq hv hne hf
  have hup : ∀ (a : Nat) (e : va_E), w a = some e → va_up (va_up w q (some (.inl (dA 0, m, .inl f)))) v (some (.inr (C_Vector, [.ref q]))) a = some e := by
    intro a e ha
    have h1 : a ≠ v := fun q1 => by rw [q1, hv] at ha; cases ha
    have h2 : a ≠ q := fun q1 => by rw [q1, hq] at ha; cases ha
    rw [va_up_ne _ _ h1, va_up_ne _ _ h2]
    exact ha
  obtain ⟨hc, hl⟩ := CI_ext h hup
  obtain ⟨n0, b, a, x, F, p1, p2⟩ := id h.2.2.2.1
  refine hQ (.ref v) _ G k n hc ⟨v, q, f, rfl, va_up_self _ _ _, ?_, fun j hj => ?_, nb_new p2 h.2.2.1.2.2.2.2 hq, by rw [vg_len]; exact hm, fun j hj => ?_⟩ hl (by show _ + pK s ≤ _; omega) (by show _ + pN s ≤ _; omega)
  · rw [va_up_ne _ _ (Ne.symm hne), va_up_self, vg_len]
  · rw [vg_len] at hj
    rw [vg_at hj]
    exact hf j hj
  · rw [vg_len] at hj
    rw [vg_at hj]
    exact hok j hj
theorem up_new {w : ww_W} {q v : Nat} {X Y Z : Option va_E} : va_up (va_up (va_up w v X) q Y) v Z = va_up (va_up w q Y) v Z := by
  funext x
  simp only [va_up]
  by_cases h9 : x = v
  · simp [h9]
  · simp [h9]
theorem vg_1 (x : Int32) : vg 1 (fun _ => x) = [x] := rfl
/-- a new vector of one element, from 'new' on -/
theorem zone_of {ck cn k n : Nat} {x : Int32} {v q : Nat} {X : va_E} (h : CI dA c P mk w G s) (hk : k ≤ ck) (hn : n ≤ cn) (hx : okI x) (hQ : zend dA c P mk w G s (some (.inl [x]), s) ck cn Q) (hv : w v = none) (hq : va_up w v (some X) q = none) : Q (.inl (some (.ref v))) (va_up (va_up (va_up w v (some X)) q (some (.inl (dA 0, 1, .inl (upd (fun _ => 0) 0 x))))) v (some (.inr (C_Vector, [.ref q])))) k n := by
  obtain ⟨h1, h2⟩ := zup_none hq
  rw [up_new]
  refine zvec_of (m := 1) (g := fun _ => x) h (by omega) (fun _ _ => hx) hk hn hQ q v _ h2 hv (Ne.symm h1) (fun j hj => ?_)
  have : j = 0 := by omega
  subst this
  exact pk_us
theorem r_read {x e i : Nat} {op : Int32} (IH : evOK dA c P mk d) (h : CI dA c P mk w G s) (hD : dD d + 3 ≤ D) (hK : pK s ≤ K) (hN : pN s ≤ N) (hop : op = nI (40 - d)) (he : e < mk) (hi : i ≤ sN s) (hx : XP P w x e) (hk3 : kd P e = 3) (hQ : zend dA c P mk w G s (e_read P (e_ev P d) s e i) 0 0 Q) :
    zx dA D K N M_Evaluator_read 0 (zargs 5 [.ref (c 0), .ref x, .ref (ge G i), .int op]) [] w 0 0 Q := by
  obtain ⟨num, hx⟩ := hx
  obtain ⟨ea, eb, hev⟩ := CI_obj h
  obtain ⟨ho, _⟩ := CI_okE h he
  obtain ⟨hv1, hv2⟩ := okV_t (ho.2.2.1 (Or.inl hk3))
  obtain ⟨ou, ca, hh, q1, q2⟩ := CI_row h hi
  unfold e_read at hQ
  repeat refine z_i rfl rfl ?_
  refine z_get rfl hx rfl ?_
  refine z_cVk [.int (pa P e)] [] 0 0 0 rfl q1 rfl rfl (Nat.le_of_ble_eq_true rfl) (Nat.le_of_ble_eq_true rfl) (by omega) (by omega) (by omega) (r_lookUp hv1 h hv2 hi (fun hp => ⟨_, rfl, ?_⟩) (fun i' a hp hi' hrs => ⟨_, rfl, ?_⟩))
  · rw [hp] at hQ
    repeat refine z_i rfl rfl ?_
    refine z_bf rfl rfl (fun q => q) ?_
    repeat refine z_i rfl rfl ?_
    refine z_cVk [.int 4] [] 0 0 0 rfl hev rfl rfl (Nat.le_of_ble_eq_true rfl) (Nat.le_of_ble_eq_true rfl) (by omega) (by omega) (by omega) (r_failC h (zend_ret rfl LE_refl (by omega) (by omega) (by omega) (by omega) hQ))
  · rw [hp] at hQ
    repeat refine z_i rfl rfl ?_
    refine z_bt rfl rfl trivial ?_
    repeat refine z_i rfl rfl ?_
    refine z_cVk [.ref a, .int op] [] (dD d + 2) K N rfl hev rfl rfl (Nat.le_of_ble_eq_true rfl) (Nat.le_of_ble_eq_true rfl) (by omega) (by omega) (by omega) (r_valueOf IH h (Nat.le_refl _) hK hN hop hi' hv2 hrs (zend_ret rfl LE_refl (by omega) (by omega) (by omega) (by omega) hQ))
theorem r_assign {x e i : Nat} {op : Int32} (IH : evOK dA c P mk d) (h : CI dA c P mk w G s) (hD : dD d + 1 ≤ D) (hK : pK s ≤ K) (hN : pN s ≤ N) (hop : op = nI (40 - d)) (he : e < mk) (hi : i ≤ sN s) (hx : XP P w x e) (hk3 : kd P e = 4 ∨ kd P e = 5) (hQ : zend dA c P mk w G s (e_asg P (e_ev P d) s e i) 0 0 Q) :
    zx dA D K N M_Evaluator_assign 0 (zargs 6 [.ref (c 0), .ref x, .ref (ge G i), .int op]) [] w 0 0 Q := by
  obtain ⟨num, hx0⟩ := id hx
  obtain ⟨ea, eb, hev⟩ := CI_obj h
  obtain ⟨ho, h120⟩ := CI_okE h he
  obtain ⟨hoa, hob⟩ := ho.2.2.2.1 hk3
  obtain ⟨hv1, hv2⟩ := okV_t hoa
  obtain ⟨hb1, hb2⟩ := okH_t hob (by omega)
  unfold e_asg at hQ
  repeat refine z_i rfl rfl ?_
  refine z_get rfl hx0 rfl ?_
  repeat refine z_i rfl rfl ?_
  refine z_cVk [.int (pb P e), .ref (ge G i), .int op] [] (dD d) (K) (N) rfl hev rfl rfl (Nat.le_of_ble_eq_true rfl) (Nat.le_of_ble_eq_true rfl) (by omega) (by omega) (by omega) (IH _ G s (tN (pb P e)) i (K) (N) _ _ _ h (by omega) hi (by omega) (by omega) hb1 hop ?_)
  generalize e_ev P d s (tN (pb P e)) i = r1 at hQ ⊢
  obtain ⟨r1, s1⟩ := r1
  intro v1 w1 G1 k1 n1 hc1 hv1 hle1 hk1 hn1
  refine ⟨_, rfl, ?_⟩
  replace hk1 : k1 + pK s1 ≤ pK s + 0 := hk1
  replace hn1 : n1 + pN s1 ≤ pN s + 0 := hn1
  replace hc1 : CI dA c P mk w1 G1 s1 := hc1
  replace hle1 : LEx c _ _ _ w1 G1 s1 := hle1
  have hi1 : i ≤ sN s1 := Nat.le_trans hi hle1.2.2.2.2.1
  obtain ⟨num1, hx1⟩ := XP_le hle1 hx
  cases r1 with
  | none =>
    replace hv1 : v1 = .null := by assumption
    subst hv1
    repeat refine z_i rfl rfl ?_
    refine z_bt rfl rfl trivial ?_
    repeat refine z_i rfl rfl ?_
    exact z_retA rfl rfl (by omega) (by omega) (hQ .null w1 G1 _ _ hc1 rfl hle1 (by show _ + pK s1 ≤ _; omega) (by show _ + pN s1 ≤ _; omega))
  | some y =>
    replace hv1 : rv dA c P mk w1 G1 s1 v1 y := by assumption
    obtain ⟨b, rfl⟩ := rv_ref hv1
    replace hQ : zend dA c P mk w G s (some y, uL s1 (if kd P e = 4 then i else e_ar s1 (tN (pa P e)) i) (tN (pa P e)) (some (.inl y))) 0 0 Q := hQ
    rw [← hle1.2.1 i hi |>.1]
    have hgo : ∀ i' : Nat, i' ≤ sN s1 → i' = (if kd P e = 4 then i else e_ar s1 (tN (pa P e)) i) → zx dA D K N M_Evaluator_assign 37 [some (.ref (c 0)), some (.ref x), some (.ref (ge G1 i)), some (.int op), some (.ref b), none] [.ref (ge G1 i')] w1 (0 + k1) (0 + n1) Q := by
      intro i' hi' hii
      rw [← hii] at hQ
      obtain ⟨ou, ca, hh, q1, q2⟩ := CI_row hc1 hi'
      obtain ⟨h2, hl2⟩ := CI_slot (a := b) (x := y) hc1 hi' hv2 q2 hv1
      have hobj : ∃ ci ∈ [5, 7, 8], ∃ fs : List Value, w1 b = some (.inr (ci, fs)) := by
        cases y with
        | inl xs =>
          obtain ⟨a1, q, f, p1, p2, _⟩ := hv1
          cases p1
          exact ⟨5, by simp, _, p2⟩
        | inr fn =>
          obtain ⟨p1, p2, _⟩ := hv1
          cases p1
          exact ⟨7, by simp, _, p2⟩
      repeat refine z_i rfl rfl ?_
      refine z_get rfl q1 rfl ?_
      repeat refine z_i rfl rfl ?_
      refine z_get rfl hx1 rfl ?_
      repeat refine z_i rfl rfl ?_
      refine z_aast (j := tN (pa P e)) (x := some b) 4 rfl rfl rfl q2 (okV_t hoa).1 hv2 (by omega) (fun b' hb' => by cases hb'; exact hobj) ?_
      repeat refine z_i rfl rfl ?_
      exact z_retA rfl rfl (by omega) (by omega) (hQ (.ref b) _ G1 _ _ h2 (rv_le hl2 hv1) (LE_trans hle1 hl2) (by show _ + pK s1 ≤ _; omega) (by show _ + pN s1 ≤ _; omega))
    repeat refine z_i rfl rfl ?_
    refine z_bf rfl rfl (fun q => q) ?_
    repeat refine z_i rfl rfl ?_
    refine z_get rfl hx1 rfl ?_
    repeat refine z_i rfl rfl ?_
    refine z_b rfl rfl (fun h4 => ?_) (fun h4 => ?_)
    · replace h4 : ¬ kd P e = 4 := h4
      repeat refine z_i rfl rfl ?_
      refine z_get rfl hx1 rfl ?_
      obtain ⟨ou, ca, hh, q1, q2⟩ := CI_row hc1 hi1
      refine z_cVk [.int (pa P e)] [] 0 0 0 rfl q1 rfl rfl (Nat.le_of_ble_eq_true rfl) (Nat.le_of_ble_eq_true rfl) (by omega) (by omega) (by omega) (r_near (okV_t hoa).1 hc1 hv2 hi1 (fun hle => ⟨_, rfl, ?_⟩))
      exact hgo _ hle (by rw [if_neg h4])
    · replace h4 : kd P e = 4 := Classical.not_not.mp h4
      repeat refine z_i rfl rfl ?_
      refine z_j rfl ?_
      exact hgo _ hi1 (by rw [if_pos h4])
/-- the end Q allows what elementsOf makes of r -/
def zendE (dA : Nat → ClassId) (c : Nat → Nat) (P : aP) (mk : Nat) (w : ww_W) (G : gG) (s : aS) (r : aR) (Q : zQ) : Prop :=
  (∀ (xs : List Int32) (a : Nat) (f : Nat → Int32) (w' : ww_W) (G' : gG) (k' n' : Nat), r.1 = some (.inl xs) → CI dA c P mk w' G' r.2 → w' a = some (.inl (dA 0, xs.length, .inl f)) → p_row f xs → a ≠ c 4 → okX xs → LEx c w G s w' G' r.2 → k' + pK r.2 ≤ pK s → n' + pN r.2 ≤ pN s → Q (.inl (some (.ref a))) w' k' n')
  ∧ ∀ (s' : aS) (w' : ww_W) (G' : gG) (k' n' : Nat), (r.1 = none ∧ s' = r.2 ∨ (∃ fn : Nat × Nat × Nat, r.1 = some (.inr fn)) ∧ s' = uX r.2 3) → CI dA c P mk w' G' s' → LEx c w G s w' G' s' → k' + pK s' ≤ pK s → n' + pN s' ≤ pN s → Q (.inl (some .null)) w' k' n'
theorem r_elems {e i : Nat} {op x : Int32} (IH : evOK dA c P mk d) (h : CI dA c P mk w G s) (hD : dD d + 1 ≤ D) (hK : pK s ≤ K) (hN : pN s ≤ N) (hop : op = nI (40 - d)) (hx : x = nI e) (he : e < mk) (hi : i ≤ sN s) (hQ : zendE dA c P mk w G s (e_ev P d s e i) Q) :
    zx dA D K N M_Evaluator_elementsOf 0 (zargs 6 [.ref (c 0), .int x, .ref (ge G i), .int op]) [] w 0 0 Q := by
  obtain ⟨ea, eb, hev⟩ := CI_obj h
  repeat refine z_i rfl rfl ?_
  refine z_cVk [.int (x), .ref (ge G i), .int op] [] (dD d) (K) (N) rfl hev rfl rfl (Nat.le_of_ble_eq_true rfl) (Nat.le_of_ble_eq_true rfl) (by omega) (by omega) (by omega) (IH _ G s e i (K) (N) _ _ _ h he hi (by omega) (by omega) hx hop ?_)
  generalize e_ev P d s e i = r1 at hQ ⊢
  obtain ⟨r1, s1⟩ := r1
  intro v1 w1 G1 k1 n1 hc1 hv1 hle1 hk1 hn1
  refine ⟨_, rfl, ?_⟩
  replace hk1 : k1 + pK s1 ≤ pK s + 0 := hk1
  replace hn1 : n1 + pN s1 ≤ pN s + 0 := hn1
  replace hc1 : CI dA c P mk w1 G1 s1 := hc1
  replace hle1 : LEx c _ _ _ w1 G1 s1 := hle1
  obtain ⟨hQ1, hQ2⟩ := hQ
  cases r1 with
  | none =>
    replace hv1 : v1 = .null := hv1
    subst hv1
    repeat refine z_i rfl rfl ?_
    refine z_instN rfl ?_
    refine z_bt rfl rfl rfl ?_
    repeat refine z_i rfl rfl ?_
    refine z_bt rfl rfl trivial ?_
    repeat refine z_i rfl rfl ?_
    exact z_retA rfl rfl (by omega) (by omega) (hQ2 s1 w1 G1 _ _ (Or.inl ⟨rfl, rfl⟩) hc1 hle1 (by omega) (by omega))
  | some y =>
    cases y with
    | inl xs =>
      obtain ⟨a, q, f, rfl, p2, p3, p4, p5, p6⟩ := hv1
      repeat refine z_i rfl rfl ?_
      refine z_instY rfl (by simp) p2 ?_
      refine z_bf rfl rfl (by intro q; cases q) ?_
      repeat refine z_i rfl rfl ?_
      refine z_cast rfl (by simp) p2 ?_
      repeat refine z_i rfl rfl ?_
      refine z_get rfl p2 rfl ?_
      exact z_retA rfl rfl (by omega) (by omega) (hQ1 xs q f w1 G1 _ _ rfl hc1 p3 p4 p5.1 p6 hle1 (by show _ + pK s1 ≤ _; omega) (by show _ + pN s1 ≤ _; omega))
    | inr fn =>
      obtain ⟨rfl, p2, p3⟩ := hv1
      obtain ⟨ea1, eb1, hev1⟩ := CI_obj hc1
      repeat refine z_i rfl rfl ?_
      refine z_instF rfl (by simp) p2 ?_
      refine z_bt rfl rfl rfl ?_
      repeat refine z_i rfl rfl ?_
      refine z_bf rfl rfl (fun q => q) ?_
      repeat refine z_i rfl rfl ?_
      refine z_cVk [.int 3] [] 0 0 0 rfl hev1 rfl rfl (Nat.le_of_ble_eq_true rfl) (Nat.le_of_ble_eq_true rfl) (by omega) (by omega) (by omega) (r_failC hc1 (fun v2 w2 G2 k2 n2 hc2 hv2 hle2 hk2 hn2 => ⟨_, rfl, ?_⟩))
      replace hv2 : v2 = .null := hv2
      subst hv2
      replace hk2 : k2 + pK s1 ≤ pK s1 + 0 := hk2
      replace hn2 : n2 + pN s1 ≤ pN s1 + 0 := hn2
      repeat refine z_i rfl rfl ?_
      exact z_retA rfl rfl (by omega) (by omega) (hQ2 (uX s1 3) w2 G2 _ _ (Or.inr ⟨⟨fn, rfl⟩, rfl⟩) hc2 (LE_trans hle1 hle2) (by show _ + pK s1 ≤ _; omega) (by show _ + pN s1 ≤ _; omega))
theorem okI_not (x : Int32) : okI (p_not x) := by
  unfold p_not
  split
  · exact Or.inl rfl
  · split <;> exact Or.inr (by decide)
theorem okI_rng (x : Int64) : okI (p_rng x) := by
  unfold p_rng
  split
  · exact Or.inl rfl
  · split
    · rename_i h1 h2
      refine Or.inr ?_
      rw [Int64.lt_iff_toInt_lt] at h1
      rw [Int64.le_iff_toInt_le] at h2
      have e1 : (-1000000000 : Int64).toInt = -1000000000 := by decide
      have e2 : (1000000000 : Int64).toInt = 1000000000 := by decide
      rw [e1] at h1
      rw [e2] at h2
      have e3 : x.toInt32.toInt = x.toInt := by
        rw [Int64.toInt_toInt32]
        exact Int.bmod_eq_of_le (by omega) (by omega)
      constructor
      · rw [Int32.le_iff_toInt_le, e3, show (-1000000000 : Int32).toInt = -1000000000 by decide]
        omega
      · rw [Int32.le_iff_toInt_le, e3, show (1000000000 : Int32).toInt = 1000000000 by decide]
        omega
    · exact Or.inl rfl
theorem okI_nI {n : Nat} (h : n ≤ 1000) : okI (nI n) := by
  refine Or.inr ⟨?_, ?_⟩
  · rw [Int32.le_iff_toInt_le, nI_toInt (by omega), show (-1000000000 : Int32).toInt = -1000000000 by decide]
    omega
  · rw [Int32.le_iff_toInt_le, nI_toInt (by omega), show (1000000000 : Int32).toInt = 1000000000 by decide]
    omega
theorem okI_sumL (f : Nat → Int32) : ∀ (r j : Nat) (x : Int64), okI (p_sumL f r j x) := by
  intro r
  induction r with
  | zero => intro j x; exact okI_rng x
  | succ r ih =>
    intro j x
    unfold p_sumL
    split
    · exact Or.inl rfl
    · exact ih _ _
theorem okI_rai (x : Int32) : okI (p_rai x) := by
  unfold p_rai
  split
  · exact Or.inr (by decide)
  · split
    · exact Or.inr (by decide)
    · rename_i h1 h2
      obtain ⟨j, hj, rfl⟩ := nI_of h1
      rw [show (100 : Int32) = nI 100 by rfl, nI_leI (by omega) (by omega)] at h2
      rw [show (100 : Int32) = nI 100 by rfl, nI_add]
      exact okI_nI (by omega)
theorem p_sumL_congr {f g : Nat → Int32} : ∀ (r j : Nat) (x : Int64), (∀ i : Nat, i < j + r → f i = g i) → p_sumL f r j x = p_sumL g r j x := by
  intro r
  induction r with
  | zero => intro j x h; rfl
  | succ r ih =>
    intro j x h
    rw [p_sumL, p_sumL, h j (by omega), ih (j + 1) _ (fun i hi => h i (by omega))]
theorem p_fst_congr {f g : Nat → Int32} {m : Nat} (h : ∀ i : Nat, i < m → f i = g i) : p_fst m f = p_fst m g := by
  unfold p_fst
  by_cases h0 : m = 0
  · rw [if_pos h0, if_pos h0]
  · rw [if_neg h0, if_neg h0, h 0 (by omega)]
theorem vg_congr {f g : Nat → Int32} {m : Nat} (h : ∀ i : Nat, i < m → f i = g i) : vg m f = vg m g := by
  unfold vg
  exact List.map_congr_left (fun a ha => h a (List.mem_range.mp ha))
end EVF
