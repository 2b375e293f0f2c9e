/-! replaced; store -/
section ZST
variable {dA : Nat → ClassId} {d K N : Nat} {w : ww_W} {Q : zQ} {pl pr : Nat}
theorem p_max_l (x y : Int32) : x ≤ p_max x y := by
  unfold p_max
  split
  · exact Int32.le_of_lt ‹_›
  · exact Int32.le_refl _
theorem p_max_r (x y : Int32) : y ≤ p_max x y := by
  unfold p_max
  split
  · exact Int32.le_refl _
  · rename_i h
    rw [Int32.lt_iff_toInt_lt] at h
    rw [Int32.le_iff_toInt_le]
    omega
theorem p_reL_ge (l : List Int32) : ∀ (r j : Nat) (x : Int32), j + r = l.length → x ≤ p_reL l r j x ∧ ∀ i : Nat, j ≤ i → i < l.length → p_at l i + 1 ≤ p_reL l r j x := by
  intro r
  induction r with
  | zero =>
    intro j x hj
    exact ⟨Int32.le_refl _, fun i h1 h2 => by omega⟩
  | succ r ih =>
    intro j x hj
    obtain ⟨h1, h2⟩ := ih (j + 1) (p_max x (p_at l j + 1)) (by omega)
    refine ⟨Int32.le_trans (p_max_l _ _) h1, fun i hi1 hi2 => ?_⟩
    by_cases h : i = j
    · subst h
      exact Int32.le_trans (p_max_r _ _) h1
    · exact h2 i (by omega) hi2
/-- the elements g laid at the places l, one after the other -/
def p_rpL (l : List Int32) (g : Nat → Int32) (n : Nat) : Nat → Nat → (Nat → Int32) → Nat → Int32
  | 0, _, G => G
  | r + 1, j, G => p_rpL l g n r (j + 1) (upd G (p_at l j).toNatClampNeg (g (j % n)))
def p_old (m : Nat) (f : Nat → Int32) (i : Nat) : Int32 := if i < m then f i else pNA
theorem r_rp_loop {e a b q c n : Nat} {l : List Int32} {f g F0 : Nat → Int32} {fs : List Value} {o1 : Option Value} {b0 a0 n0 : Int32} (hl : l.length ≤ 16) (hF : p_row F0 l) (hc : c ≤ 16) (hn : n ≤ 16) (hn0 : 0 < n) (hlc : ∀ j : Nat, j < l.length → ∃ p : Nat, p < c ∧ p_at l j = nI p) (hK : 1 ≤ K) (hN : c ≤ N)
    (he : w e = some (.inr (C_Evaluator, fs))) (h8 : fs[8]? = some (.ref pl)) (hp : w pl = some (.inr (C_Places, [.ref pr, .int (nI l.length), .int b0, .int a0, .int n0]))) (hpr : w pr = some (.inl (dA 0, 16, .inl F0))) (hb : w b = some (.inl (dA 0, n, .inl g))) (hq0 : w q = none) : ∀ (r j : Nat) (F G : Nat → Int32), j + r = l.length → (∀ i : Nat, i < c → F i = G i) → (∀ F' : Nat → Int32, (∀ i : Nat, i < c → F' i = p_rpL l g n r j G i) → Q (.inl (some (.ref q))) (va_up w q (some (.inl (dA 0, c, .inl F')))) 1 c) →
    zx dA d K N M_Evaluator_replaced 33 [some (.ref e), o1, some (.int (nI c)), some (.ref b), some (.ref q), some (.int (nI j))] [] (va_up w q (some (.inl (dA 0, c, .inl F)))) 1 c Q := by
  intro r
  induction r with
  | zero =>
    intro j F G hj hG hQ
    repeat refine z_i rfl rfl ?_
    refine z_get rfl (zup_at hq0 he) h8 ?_
    refine z_get rfl (zup_at hq0 hp) rfl ?_
    refine z_bt rfl rfl (nI_le (by omega) (by omega)) ?_
    repeat refine z_i rfl rfl ?_
    exact z_retA rfl rfl (by omega) (by omega) (hQ F hG)
  | succ r ih =>
    intro j F G hj hG hQ
    repeat refine z_i rfl rfl ?_
    refine z_get rfl (zup_at hq0 he) h8 ?_
    refine z_get rfl (zup_at hq0 hp) rfl ?_
    refine z_bf rfl rfl (nI_ge (by omega) (by omega)) ?_
    repeat refine z_i rfl rfl ?_
    refine z_get rfl (zup_at hq0 he) h8 ?_
    refine z_get rfl (zup_at hq0 hp) rfl ?_
    repeat refine z_i rfl rfl ?_
    refine z_iald (j := j) rfl (zup_at hq0 hpr) rfl (by omega) (by omega) ?_
    rw [hF j (by omega)]
    repeat refine z_i rfl rfl ?_
    refine z_alen 0 rfl (zup_at hq0 hb) rfl ?_
    refine z_dv rfl (nI_ne0 hn0 (by omega)) ?_
    refine z_iald (j := j % n) rfl (zup_at hq0 hb) (pk_rem (by omega) hn0 (by omega)) (Nat.mod_lt _ hn0) (by omega) ?_
    obtain ⟨p, hp1, hp2⟩ := hlc j (by omega)
    refine z_iast (j := p) rfl (va_up_self _ _ _) hp2 (by omega) (by omega) ?_
    rw [bx_uu]
    repeat refine z_i rfl rfl ?_
    refine z_j rfl ?_
    have := ih (j + 1) (upd F p (g (j % n))) (upd G (p_at l j).toNatClampNeg (g (j % n))) (by omega) (fun i hi => by
      rw [hp2, nI_clamp (by omega)]
      by_cases h : i = p
      · subst h; rw [pk_us, pk_us]
      · rw [pk_un h, pk_un h]; exact hG i hi) hQ
    rw [← nI_1] at this
    exact this
theorem r_rp_fill {e a q c m : Nat} {f : Nat → Int32} {o3 : Option Value} (hc : c ≤ 16) (hq0 : w q = none) : ∀ (r j : Nat) (F : Nat → Int32), j + r = c → m ≤ j → (∀ i : Nat, i < j → F i = p_old m f i) → (∀ F' : Nat → Int32, (∀ i : Nat, i < c → F' i = p_old m f i) → zx dA d K N M_Evaluator_replaced 30 [some (.ref e), some (.ref a), some (.int (nI c)), o3, some (.ref q), some (.int (nI c))] [] (va_up w q (some (.inl (dA 0, c, .inl F')))) 1 c Q) →
    zx dA d K N M_Evaluator_replaced 11 [some (.ref e), some (.ref a), some (.int (nI c)), o3, some (.ref q), some (.int (nI j))] [] (va_up w q (some (.inl (dA 0, c, .inl F)))) 1 c Q := by
  intro r
  induction r with
  | zero =>
    intro j F hj hmj hF hk
    have hj : j = c := by omega
    subst hj
    repeat refine z_i rfl rfl ?_
    refine z_bt rfl rfl (nI_le (by omega) (by omega)) ?_
    exact hk F hF
  | succ r ih =>
    intro j F hj hmj hF hk
    repeat refine z_i rfl rfl ?_
    refine z_bf rfl rfl (nI_ge (by omega) (by omega)) ?_
    repeat refine z_i rfl rfl ?_
    refine z_iast (j := j) rfl (va_up_self _ _ _) rfl (by omega) (by omega) ?_
    rw [bx_uu]
    repeat refine z_i rfl rfl ?_
    refine z_j rfl ?_
    have := ih (j + 1) (upd F j pNA) (by omega) (by omega) (fun i hi => by
      by_cases h : i = j
      · subst h; rw [pk_us, p_old, if_neg (by omega)]
      · rw [pk_un h]; exact hF i (by omega)) hk
    rw [← nI_1] at this
    exact this
theorem r_replaced {e a b c m n : Nat} {l : List Int32} {f g F0 : Nat → Int32} {fs : List Value} {i : Int32} {b0 a0 n0 : Int32} (hi : i = nI c) (hd : 2 ≤ d) (hl : l.length ≤ 16) (hF : p_row F0 l) (hc : c ≤ 16) (hm : m ≤ c) (hn : n ≤ 16) (hn0 : 0 < n) (hlc : ∀ j : Nat, j < l.length → ∃ p : Nat, p < c ∧ p_at l j = nI p) (hK : 1 ≤ K) (hN : c ≤ N)
    (he : w e = some (.inr (C_Evaluator, fs))) (h8 : fs[8]? = some (.ref pl)) (hp : w pl = some (.inr (C_Places, [.ref pr, .int (nI l.length), .int b0, .int a0, .int n0]))) (hpr : w pr = some (.inl (dA 0, 16, .inl F0))) (ha : w a = some (.inl (dA 0, m, .inl f))) (hb : w b = some (.inl (dA 0, n, .inl g)))
    (hQ : ∀ (q : Nat) (F' : Nat → Int32), w q = none → (∀ i : Nat, i < c → F' i = p_rpL l g n l.length 0 (p_old m f) i) → Q (.inl (some (.ref q))) (va_up w q (some (.inl (dA 0, c, .inl F')))) 1 c) :
    zx dA d K N M_Evaluator_replaced 0 (zargs 6 [.ref e, .ref a, .int i, .ref b]) [] w 0 0 Q := by
  subst hi
  repeat refine z_i rfl rfl ?_
  refine z_cSk [.ref a, .int (nI c)] [] 1 1 c rfl rfl rfl (Nat.le_of_ble_eq_true rfl) (Nat.le_of_ble_eq_true rfl) (by omega) (by omega) (by omega) (r_copyOf rfl (by omega) (by omega) (by omega) ha (by omega) (by omega) (fun q F hq hF1 => ⟨_, rfl, ?_⟩))
  repeat refine z_i rfl rfl ?_
  refine z_alen 0 rfl (zup_at hq ha) rfl ?_
  refine z_i rfl rfl ?_
  have hx := r_rp_fill (dA := dA) (d := d) (K := K) (N := N) (Q := Q) (e := e) (a := a) (m := m) (f := f) (o3 := some (.ref b)) hc hq (c - m) m F (by omega) (by omega) (fun i hi => by
    rw [hF1 i (by omega), if_pos hi, p_old, if_pos hi]) (fun F' hF' => by
      refine z_i rfl rfl ?_
      refine z_i rfl rfl ?_
      have := r_rp_loop (d := d) (K := K) (N := N) (Q := Q) (e := e) (o1 := some (.ref a)) (a := a) (f := f) hl hF hc hn hn0 hlc hK hN he h8 hp hpr hb hq l.length 0 F' (p_old m f) (by omega) hF' (fun F'' h'' => hQ q F'' hq h'')
      rw [nI_0] at this
      exact this)
  rw [show 0 + c = c by omega]
  exact hx
theorem r_store {e a b g en hd0 m n r gq : Nat} {f ix gf F : Nat → Int32} {fs : List Value} {c b0 a0 n0 : Int32} {ou ca gi ov : Value} {h : Nat → Option Nat} {j : Nat} (hj : j < 10) (hd : 4 ≤ d) (hK : 2 ≤ K) (hN : 17 ≤ N) (hne : pr ≠ pl) (hm : m ≤ 16) (hn : n ≤ 16) (hr : r ≤ 16) (he : w e = some (.inr (C_Evaluator, fs))) (hel : fs.length = 13) (h8 : fs[8]? = some (.ref pl)) (hp : w pl = some (.inr (C_Places, [.ref pr, .int c, .int b0, .int a0, .int n0]))) (hpr : w pr = some (.inl (dA 0, 16, .inl F)))
    (ha : w a = some (.inl (dA 0, m, .inl f))) (hb : w b = some (.inl (dA 0, n, .inl ix))) (hg : w g = some (.inr (C_Vector, [.ref gq]))) (hgq : w gq = some (.inl (dA 0, r, .inl gf))) (har : a ≠ pr) (hbr : b ≠ pr) (hgr : gq ≠ pr) (hen : w en = some (.inr (C_Env, [.ref hd0, ou, ca, gi, ov]))) (hh : w hd0 = some (.inl (dA 4, 10, .inr (.inr (.inr (.inr h))))))
    (h0 : p_find ix n m false = none → ∀ (c b1 a1 n1 : Int32) (F' : Nat → Int32), Q (.inl (some .null)) (va_up (pw dA w pl pr c b1 a1 n1 F') e (some (.inr (C_Evaluator, fs.set 5 (.int 8))))) 0 0)
    (hlen : ∀ l : List Int32, p_find ix n m false = some l → l.length ≤ 16 ∧ ∀ i : Nat, i < l.length → 0 ≤ (p_at l i).toInt ∧ (p_at l i).toInt < 2 ^ 31 - 1)
    (h1 : p_find ix n m false = some [] → ∀ (c b1 a1 n1 : Int32) (F' : Nat → Int32), Q (.inl (some (.ref g))) (pw dA w pl pr c b1 a1 n1 F') 0 0)
    (h2 : ∀ l : List Int32, p_find ix n m false = some l → ¬ l = [] → r = 0 → ∀ (c b1 a1 n1 : Int32) (F' : Nat → Int32), Q (.inl (some .null)) (va_up (pw dA w pl pr c b1 a1 n1 F') e (some (.inr (C_Evaluator, fs.set 5 (.int 5))))) 0 0)
    (h3 : ∀ l : List Int32, p_find ix n m false = some l → ¬ l = [] → ¬ r = 0 → ¬ p_max (nI m) (p_reL l l.length 0 0) ≤ 16 → ∀ (c b1 a1 n1 : Int32) (F' : Nat → Int32), Q (.inl (some .null)) (va_up (pw dA w pl pr c b1 a1 n1 F') e (some (.inr (C_Evaluator, fs.set 5 (.int 1))))) 0 0)
    (hQ : ∀ l : List Int32, p_find ix n m false = some l → ¬ l = [] → ¬ r = 0 → ∀ cc : Nat, cc ≤ 16 → p_max (nI m) (p_reL l l.length 0 0) = nI cc → ∀ (c b1 a1 n1 : Int32) (F' : Nat → Int32) (q v : Nat) (G : Nat → Int32), pw dA w pl pr c b1 a1 n1 F' q = none → pw dA w pl pr c b1 a1 n1 F' v = none → v ≠ q → (∀ i : Nat, i < cc → G i = p_rpL l gf r l.length 0 (p_old m f) i) →
      Q (.inl (some (.ref g))) (va_up (va_up (va_up (pw dA w pl pr c b1 a1 n1 F') q (some (.inl (dA 0, cc, .inl G)))) v (some (.inr (C_Vector, [.ref q])))) hd0 (some (.inl (dA 4, 10, .inr (.inr (.inr (.inr (va_up h j (some v))))))))) 2 (cc + 1)) :
    zx dA d K N M_Evaluator_store 0 (zargs 7 [.ref e, .ref a, .ref b, .ref g, .ref en, .int (nI j)]) [] w 0 0 Q := by
  have hepl : e ≠ pl := z_ne he hp (by intro q; cases q)
  have hepr : e ≠ pr := z_ne he hpr (by intro q; cases q)
  have hapl : a ≠ pl := z_ne ha hp (by intro q; cases q)
  have hbpl : b ≠ pl := z_ne hb hp (by intro q; cases q)
  have hgpl : g ≠ pl := z_ne hg hp (by intro q; cases q)
  have hgpr : g ≠ pr := z_ne hg hpr (by intro q; cases q)
  have hgqpl : gq ≠ pl := z_ne hgq hp (by intro q; cases q)
  have henpl : en ≠ pl := z_ne hen hp (by intro q; cases q)
  have henpr : en ≠ pr := z_ne hen hpr (by intro q; cases q)
  have hhpl : hd0 ≠ pl := z_ne hh hp (by intro q; cases q)
  have hhpr : hd0 ≠ pr := z_ne hh hpr (by intro q; have q1 := (Prod.mk.inj (Prod.mk.inj (Sum.inl.inj q)).2).1; omega)
  repeat refine z_i rfl rfl ?_
  refine z_get rfl he h8 ?_
  repeat refine z_i rfl rfl ?_
  refine z_alen 0 rfl ha rfl ?_
  repeat refine z_i rfl rfl ?_
  refine z_cVk [.ref b, .int (nI m), .int 0] [] 1 0 0 rfl hp rfl rfl (Nat.le_of_ble_eq_true rfl) (Nat.le_of_ble_eq_true rfl) (by omega) (by omega) (by omega) ?_
  have hw := pw_self hp hpr
  have hx := r_find (d := 1) (K := 0) (N := 0) (w := w) (c := c) (b0 := b0) (a0 := a0) (n0 := n0) (F := F) (na := false) (Q := zcont dA d K N M_Evaluator_store 11 (zargs 7 [.ref e, .ref a, .ref b, .ref g, .ref en, .int (nI j)]) [] 0 0 Q) (by omega) hne hb hbpl hbr hn hm (fun hf c b1 a1 n1 F' => ⟨_, rfl, ?_⟩) (fun l hf b1 a1 n1 F' hF' => ⟨_, rfl, ?_⟩)
  · rw [← hw] at hx
    exact hx
  · refine z_bf rfl rfl (fun q => q rfl) ?_
    repeat refine z_i rfl rfl ?_
    refine z_cVk [.int 8] [] 0 0 0 rfl ((pw_at hepl hepr).trans he) rfl rfl (Nat.le_of_ble_eq_true rfl) (Nat.le_of_ble_eq_true rfl) (by omega) (by omega) (by omega) (r_fail ((pw_at hepl hepr).trans he) hel ⟨_, rfl, ?_⟩)
    exact z_retA rfl rfl (by omega) (by omega) (h0 hf _ _ _ _ _)
  · refine z_bt rfl rfl (by intro q; cases q) ?_
    obtain ⟨hl, hlp⟩ := hlen l hf
    repeat refine z_i rfl rfl ?_
    refine z_get rfl ((pw_at hepl hepr).trans he) h8 ?_
    refine z_get rfl pw_pl rfl ?_
    refine z_b rfl rfl (fun h5 => ?_) (fun h5 => ?_)
    · have hl0 : ¬ l = [] := fun q => h5 (by rw [q]; exact nI_0)
      repeat refine z_i rfl rfl ?_
      refine z_get rfl ((pw_at hgpl hgpr).trans hg) rfl ?_
      refine z_alen 0 rfl ((pw_at hgqpl hgr).trans hgq) rfl ?_
      refine z_b rfl rfl (fun h6 => ?_) (fun h6 => ?_)
      · have hr0 : ¬ r = 0 := fun q => h6 (by show nI r = 0; rw [q]; exact nI_0)
        repeat refine z_i rfl rfl ?_
        refine z_alen 0 rfl ((pw_at hapl har).trans ha) rfl ?_
        repeat refine z_i rfl rfl ?_
        refine z_get rfl ((pw_at hepl hepr).trans he) h8 ?_
        refine z_cVk [] [.int (nI m)] 1 0 0 rfl pw_pl rfl rfl (Nat.le_of_ble_eq_true rfl) (Nat.le_of_ble_eq_true rfl) (by omega) (by omega) (by omega) (r_reach (by omega) hne hl hF' ⟨_, rfl, ?_⟩)
        refine z_cSk [.int (nI m), .int (p_reL l l.length 0 0)] [] 0 0 0 rfl rfl rfl (Nat.le_of_ble_eq_true rfl) (Nat.le_of_ble_eq_true rfl) (by omega) (by omega) (by omega) (r_max dA 0 _ _ _ _ ⟨_, rfl, ?_⟩)
        repeat refine z_i rfl rfl ?_
        refine z_b rfl rfl (fun h7 => ?_) (fun h7 => ?_)
        · replace h7 : p_max (nI m) (p_reL l l.length 0 0) ≤ 16 := h7
          have hge := p_max_l (nI m) (p_reL l l.length 0 0)
          have hnn : ¬ p_max (nI m) (p_reL l l.length 0 0) < 0 := by
            rw [Int32.lt_iff_toInt_lt]
            rw [Int32.le_iff_toInt_le, nI_toInt (by omega)] at hge
            show ¬ _ < (0 : Int)
            omega
          obtain ⟨cc, hcc1, hcc2⟩ := nI_of hnn
          have hcc : cc ≤ 16 := by
            rw [hcc2] at h7
            exact (nI_leI hcc1 (show 16 < 2 ^ 31 by decide)).mp h7
          have hmc : m ≤ cc := by
            rw [hcc2] at hge
            exact (nI_leI (by omega) (by omega)).mp hge
          have hlc : ∀ i : Nat, i < l.length → ∃ p : Nat, p < cc ∧ p_at l i = nI p := by
            intro i hi
            have h9 := (p_reL_ge l l.length 0 0 (by omega)).2 i (by omega) hi
            have h10 := Int32.le_trans h9 (p_max_r (nI m) _)
            rw [hcc2] at h10
            obtain ⟨h11, h12⟩ := hlp i hi
            obtain ⟨p, hp1, hp2⟩ := nI_of (x := p_at l i) (by rw [Int32.lt_iff_toInt_lt]; show ¬ _ < (0 : Int); omega)
            rw [hp2, nI_toInt hp1] at h12
            rw [hp2, nI_1, nI_leI (by omega) (by omega)] at h10
            exact ⟨p, by omega, hp2⟩
          repeat refine z_i rfl rfl ?_
          refine z_get rfl ((pw_at henpl henpr).trans hen) rfl ?_
          repeat refine z_i rfl rfl ?_
          refine z_new rfl (by omega) (by omega) (fun v hv => ?_)
          repeat refine z_i rfl rfl ?_
          refine z_get rfl (zup_at hv ((pw_at hgpl hgpr).trans hg)) rfl ?_
          refine z_cVk [.ref a, .int (p_max (nI m) (p_reL l l.length 0 0)), .ref gq] [.ref v, .ref v, .int (nI j), .ref hd0] 2 1 cc rfl (zup_at hv ((pw_at hepl hepr).trans he)) rfl rfl (Nat.le_of_ble_eq_true rfl) (Nat.le_of_ble_eq_true rfl) (by omega) (by omega) (by omega) (r_replaced hcc2 (by omega) hl hF' hcc hmc hr (by omega) hlc (by omega) (by omega) (zup_at hv ((pw_at hepl hepr).trans he)) h8 (zup_at hv pw_pl) (zup_at hv (pw_pr hne)) (zup_at hv ((pw_at hapl har).trans ha)) (zup_at hv ((pw_at hgqpl hgr).trans hgq)) (fun q G hq hG => ⟨_, rfl, ?_⟩))
          obtain ⟨hqv, hq0⟩ := zup_none hq
          refine z_cIk [.ref q] [.ref v, .int (nI j), .ref hd0] 3 0 0 rfl rfl rfl (Nat.le_of_ble_eq_true rfl) (Nat.le_of_ble_eq_true rfl) (by omega) (by omega) (by omega) (r_Vector_init_a (by omega) ((va_up_ne _ _ (Ne.symm hqv)).trans (va_up_self _ _ _)) _ ⟨_, rfl, ?_⟩)
          have hhv : hd0 ≠ v := fun q => by rw [q] at hh; rw [pw_at (q ▸ hhpl) (q ▸ hhpr), hh] at hv; cases hv
          have hhq : hd0 ≠ q := fun q1 => by rw [q1] at hh; rw [pw_at (q1 ▸ hhpl) (q1 ▸ hhpr), hh] at hq0; cases hq0
          refine z_aast (j := j) (x := some v) 4 rfl rfl rfl ((va_up_ne _ _ hhv).trans ((va_up_ne _ _ hhq).trans ((va_up_ne _ _ hhv).trans ((pw_at hhpl hhpr).trans hh)))) rfl (by omega) (by omega) (fun b hb => by cases hb; exact ⟨5, by simp, _, va_up_self _ _ _⟩) ?_
          repeat refine z_i rfl rfl ?_
          refine z_retA rfl rfl (by omega) (by omega) ?_
          have := hQ l hf hl0 hr0 cc hcc hcc2 _ _ _ _ _ q v G hq0 hv (Ne.symm hqv) hG
          have e1 : va_up (va_up (va_up (pw dA w pl pr (nI l.length) b1 a1 n1 F') v (some (.inr (5, dC5)))) q (some (.inl (dA 0, cc, .inl G)))) v (some (.inr (C_Vector, [.ref q]))) = va_up (va_up (pw dA w pl pr (nI l.length) b1 a1 n1 F') q (some (.inl (dA 0, cc, .inl G)))) v (some (.inr (C_Vector, [.ref q]))) := by
            funext x
            simp only [va_up]
            by_cases h9 : x = v
            · simp [h9]
            · simp [h9]
          rw [e1, show 0 + 0 + 0 + 1 + cc + 0 = cc + 1 by omega]
          exact this
        · repeat refine z_i rfl rfl ?_
          refine z_cVk [.int 1] [] 0 0 0 rfl ((pw_at hepl hepr).trans he) rfl rfl (Nat.le_of_ble_eq_true rfl) (Nat.le_of_ble_eq_true rfl) (by omega) (by omega) (by omega) (r_fail ((pw_at hepl hepr).trans he) hel ⟨_, rfl, ?_⟩)
          exact z_retA rfl rfl (by omega) (by omega) (h3 l hf hl0 hr0 h7 _ _ _ _ _)
      · have hr0 : r = 0 := (nI_z (by omega)).mp (Classical.not_not.mp h6)
        repeat refine z_i rfl rfl ?_
        refine z_cVk [.int 5] [] 0 0 0 rfl ((pw_at hepl hepr).trans he) rfl rfl (Nat.le_of_ble_eq_true rfl) (Nat.le_of_ble_eq_true rfl) (by omega) (by omega) (by omega) (r_fail ((pw_at hepl hepr).trans he) hel ⟨_, rfl, ?_⟩)
        exact z_retA rfl rfl (by omega) (by omega) (h2 l hf hl0 hr0 _ _ _ _ _)
    · have hl0 : l = [] := by
        have := (nI_z (by omega)).mp (Classical.not_not.mp h5)
        exact List.length_eq_zero_iff.mp this
      subst hl0
      repeat refine z_i rfl rfl ?_
      exact z_retA rfl rfl (by omega) (by omega) (h1 hf _ _ _ _ _)
end ZST
