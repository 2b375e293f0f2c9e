/-! replace, takeEndValue, endCall, attempt, absent -/
section EVJ
variable {dA : Nat → ClassId} {c : Nat → Nat} {P : aP} {mk : Nat} {w w' : ww_W} {G G' : gG} {s s' : aS} {D K N d : Nat} {Q : zQ}
theorem r_storeC {a b g gq j i : Nat} {xs ys zs : List Int32} {f ix gf : Nat → Int32} {x : Int32} (hx : x = nI j) (h : CI dA c P mk w G s) (hi : i ≤ sN s) (hj : j < 10) (hD : 4 ≤ D) (hK : 2 ≤ K) (hN : 17 ≤ N)
    (ha : w a = some (.inl (dA 0, xs.length, .inl f))) (hb : w b = some (.inl (dA 0, ys.length, .inl ix))) (hg : w g = some (.inr (C_Vector, [.ref gq]))) (hgq : w gq = some (.inl (dA 0, zs.length, .inl gf))) (hf : p_row f xs) (hix : p_row ix ys) (hgf : p_row gf zs) (ha4 : a ≠ c 4) (hb4 : b ≠ c 4) (hg4 : nb c gq) (hxs : okX xs) (hys : okX ys) (hzs : okX zs) (hQ : zend dA c P mk w G s (e_sto xs ys zs s i j) 2 17 Q) :
    zx dA D K N M_Evaluator_store 0 (zargs 7 [.ref (c 0), .ref a, .ref b, .ref g, .ref (ge G i), .int x]) [] w 0 0 Q := by
  subst hx
  obtain ⟨ea, eb, hev⟩ := CI_obj h
  obtain ⟨n1, b1, a1, x1, F1, p1, p2⟩ := id h.2.2.2.1
  have hne : c 4 ≠ c 3 := z_ne p2 p1 (by intro q; cases q)
  obtain ⟨ou, ca, hh, q1, q2⟩ := CI_row h hi
  have hfc : p_find ix ys.length xs.length false = p_find (p_at ys) ys.length xs.length false := p_find_c hix
  have hez : ∀ {n b a x : Int32} {F : Nat → Int32}, pw dA w (c 3) (c 4) n b a x F (c 0) = some (.inr (C_Evaluator, evF c G s ea eb)) := fun {n b a x F} => (pw_at (z_ne hev p1 (by intro q; cases q)) (z_ne hev p2 (by intro q; cases q))).trans hev
  have hgv : rv dA c P mk w G s (.ref g) (.inl zs) := ⟨g, gq, gf, rfl, hg, hgq, hgf, hg4, hzs⟩
  have hfail : ∀ (y : Int32) (n b a x : Int32) (F : Nat → Int32), okI y → e_rep xs ys zs = .inr y → Q (.inl (some .null)) (va_up (pw dA w (c 3) (c 4) n b a x F) (c 0) (some (.inr (C_Evaluator, (evF c G s ea eb).set 5 (.int y))))) 0 0 := by
    intro y n b a x F hy he
    unfold e_sto at hQ
    rw [he] at hQ
    exact zfail_of (CI_pl h).1 hy hez (zend_pl h hQ)
  obtain ⟨h16, hok⟩ := hxs
  obtain ⟨h16y, hoky⟩ := hys
  obtain ⟨h16z, hokz⟩ := hzs
  refine r_store (pl := c 3) (pr := c 4) hj hD hK hN hne h16 h16y h16z hev rfl rfl p1 p2 ha hb hg hgq ha4 hb4 hg4.1 q1 q2 (fun h1 n b a x F => hfail 8 n b a x F (by decide) ?_) (fun l h1 => ⟨by have := p_find_len h1; omega, p_find_pos h16 h1⟩) (fun h1 n b a x F => ?_) (fun l h1 h2 h3 n b a x F => hfail 5 n b a x F (by decide) ?_) (fun l h1 h2 h3 h4 n b a x F => hfail 1 n b a x F (by decide) ?_) (fun l h1 h2 h3 cc h4 h5 n b a x F q v Gf z1 z2 z3 z4 => ?_)
  · unfold e_rep
    rw [← hfc, h1]
  · have he : e_rep xs ys zs = .inl none := by
      unfold e_rep
      rw [← hfc, h1]
      rfl
    unfold e_sto at hQ
    rw [he] at hQ
    exact hQ (.ref g) _ G 0 0 (CI_pl h).1 (rv_le (CI_pl h).2 hgv) (CI_pl h).2 (by show 0 + pK s ≤ _; omega) (by show 0 + pN s ≤ _; omega)
  · unfold e_rep
    rw [← hfc, h1]
    show (if l = [] then _ else _) = _
    rw [if_neg h2, if_pos h3]
  · unfold e_rep
    rw [← hfc, h1]
    show (if l = [] then _ else _) = _
    rw [if_neg h2, if_neg h3, if_neg h4]
  · have he : e_rep xs ys zs = .inl (some (vg cc (p_rpL l (p_at zs) zs.length l.length 0 (p_old xs.length (p_at xs))))) := by
      unfold e_rep
      rw [← hfc, h1]
      show (if l = [] then _ else _) = _
      rw [if_neg h2, if_neg h3, h5, if_pos (show nI cc ≤ 16 from (nI_leI (by omega) (show 16 < 2 ^ 31 by decide)).mpr h4), tN_nI (by omega)]
    unfold e_sto at hQ
    rw [he] at hQ
    have hc0 := (CI_pl (n := n) (b := b) (a := a) (x := x) (F := F) h).1
    have hup : ∀ (y : Nat) (e : va_E), pw dA w (c 3) (c 4) n b a x F y = some e → va_up (va_up (pw dA w (c 3) (c 4) n b a x F) q (some (.inl (dA 0, cc, .inl Gf)))) v (some (.inr (C_Vector, [.ref q]))) y = some e := by
      intro y e hy
      have g1 : y ≠ v := fun t => by rw [t, z2] at hy; cases hy
      have g2 : y ≠ q := fun t => by rw [t, z1] at hy; cases hy
      rw [va_up_ne _ _ g1, va_up_ne _ _ g2]
      exact hy
    obtain ⟨hc2, hl2⟩ := CI_ext hc0 hup
    have hlen : (vg cc (p_rpL l (p_at zs) zs.length l.length 0 (p_old xs.length (p_at xs)))).length = cc := vg_len _ _
    have hrv : rv dA c P mk (va_up (va_up (pw dA w (c 3) (c 4) n b a x F) q (some (.inl (dA 0, cc, .inl Gf)))) v (some (.inr (C_Vector, [.ref q])))) G s (.ref v) (.inl (vg cc (p_rpL l (p_at zs) zs.length l.length 0 (p_old xs.length (p_at xs))))) := by
      refine ⟨v, q, Gf, rfl, va_up_self _ _ _, ?_, fun j hj => ?_, nb_new (pw_pr hne) (CI_pl h).1.2.2.1.2.2.2.2 z1, by rw [hlen]; exact h4, fun j hj => ?_⟩
      · rw [va_up_ne _ _ (Ne.symm z3), va_up_self, hlen]
      · rw [hlen] at hj
        rw [vg_at hj, z4 j hj]
        refine p_rpL_c (by omega) (fun k hk => hgf k hk) _ _ _ _ ?_
        unfold p_old
        split
        · exact hf j (by omega)
        · rfl
      · rw [hlen] at hj
        rw [vg_at hj]
        refine okI_rpL (by omega) (fun k hk => hokz k hk) _ _ _ ?_
        unfold p_old
        split
        · exact hok j (by omega)
        · exact Or.inl rfl
    obtain ⟨ou', ca', hh', t1, t2⟩ := CI_row hc2 hi
    have hrow : va_up (va_up (pw dA w (c 3) (c 4) n b a x F) q (some (.inl (dA 0, cc, .inl Gf)))) v (some (.inr (C_Vector, [.ref q]))) (gh G i) = some (.inl (dA 4, 10, .inr (.inr (.inr (.inr hh))))) := by
      refine hup _ _ ?_
      rw [pw_at (z_ne q2 p1 (by intro q; cases q)) (z_ne q2 p2 (by intro q; have q1 := (Prod.mk.inj (Prod.mk.inj (Sum.inl.inj q)).2).1; omega))]
      exact q2
    obtain ⟨hc3, hl3⟩ := CI_slot (a := v) hc2 hi hj hrow hrv
    exact hQ (.ref g) _ G 2 (cc + 1) hc3 (rv_le (LE_trans (CI_pl h).2 (LE_trans hl2 hl3)) hgv) (LE_trans (CI_pl h).2 (LE_trans hl2 hl3)) (by show _ + pK s ≤ _; omega) (by show _ + pN s ≤ _; omega)
theorem r_replace {x e i : Nat} {op : Int32} (IH : evOK dA c P mk d) (h : CI dA c P mk w G s) (hD : dD d + 3 ≤ D) (hK : pK s + 2 ≤ K) (hN : pN s + 17 ≤ N) (hop : op = nI (40 - d)) (he : e < mk) (hi : i ≤ sN s) (hx : XP P w x e) (hk3 : kd P e = 13) (hQ : zend dA c P mk w G s (e_repl P (e_ev P d) s e i) 2 17 Q) :
    zx dA D K N M_Evaluator_replace 0 (zargs 11 [.ref (c 0), .ref x, .ref (ge G i), .int op]) [] w 0 0 Q := by
  obtain ⟨num, hx0⟩ := id hx
  obtain ⟨ea, eb, hev⟩ := CI_obj h
  obtain ⟨ho, h120⟩ := CI_okE h he
  obtain ⟨hoa, hob, hoc⟩ := ho.2.2.2.2.2.2.2.2.2.1 hk3
  obtain ⟨hva, hva2⟩ := okV_t hoa
  obtain ⟨hb1, hb2⟩ := okH_t hob (by omega)
  obtain ⟨hcc1, hcc2⟩ := okH_t hoc (by omega)
  have hd8 : 8 ≤ dD d := by unfold dD; omega
  unfold e_repl at hQ
  repeat refine z_i rfl rfl ?_
  refine z_get rfl hx0 rfl ?_
  repeat refine z_i rfl rfl ?_
  refine z_cVk [.int (pb P e), .ref (ge G i), .int op] [] (dD d) (K) (N) rfl hev rfl rfl (Nat.le_of_ble_eq_true rfl) (Nat.le_of_ble_eq_true rfl) (by omega) (by omega) (by omega) (IH _ G s (tN (pb P e)) i (K) (N) _ _ _ h (by omega) hi (by omega) (by omega) hb1 hop ?_)
  generalize e_ev P d s (tN (pb P e)) i = r1 at hQ ⊢
  obtain ⟨r1, s1⟩ := r1
  intro v1 w1 G1 k1 n1 hc1 hv1 hle1 hk1 hn1
  refine ⟨_, rfl, ?_⟩
  replace hk1 : k1 + pK s1 ≤ pK s + 0 := hk1
  replace hn1 : n1 + pN s1 ≤ pN s + 0 := hn1
  replace hc1 : CI dA c P mk w1 G1 s1 := hc1
  replace hle1 : LEx c _ _ _ w1 G1 s1 := hle1
  have hi1 : i ≤ sN s1 := Nat.le_trans hi hle1.2.2.2.2.1
  have hxx1 := XP_le hle1 hx
  obtain ⟨num1, hx1⟩ := id hxx1
  obtain ⟨ea1, eb1, hev1⟩ := CI_obj hc1
  cases r1 with
  | none =>
    replace hv1 : v1 = .null := hv1
    subst hv1
    repeat refine z_i rfl rfl ?_
    refine z_bf rfl rfl (fun q => q) ?_
    repeat refine z_i rfl rfl ?_
    exact z_retA rfl rfl (by omega) (by omega) (hQ .null w1 G1 _ _ hc1 rfl hle1 (by show _ + pK s1 ≤ _; omega) (by show _ + pN s1 ≤ _; omega))
  | some y1 =>
    replace hv1 : rv dA c P mk w1 G1 s1 v1 y1 := hv1
    obtain ⟨a, rfl⟩ := rv_ref hv1
    rw [← (hle1.2.1 i hi).1]
    replace hQ : zend dA c P mk w G s (e_bd (e_ev P d s1 (tN (pc P e)) i) (fun v s2 => e_rpl P (e_ev P d) e i y1 v s2)) 2 17 Q := hQ
    repeat refine z_i rfl rfl ?_
    refine z_bt rfl rfl trivial ?_
    repeat refine z_i rfl rfl ?_
    refine z_get rfl hx1 rfl ?_
    repeat refine z_i rfl rfl ?_
    refine z_cVk [.int (pc P e), .ref (ge G1 i), .int op] [] (dD d) (K - k1) (N - n1) rfl hev1 rfl rfl (Nat.le_of_ble_eq_true rfl) (Nat.le_of_ble_eq_true rfl) (by omega) (by omega) (by omega) (IH _ G1 s1 (tN (pc P e)) i (K - k1) (N - n1) _ _ _ hc1 (by omega) hi1 (by omega) (by omega) hcc1 hop ?_)
    generalize e_ev P d s1 (tN (pc P e)) i = r2 at hQ ⊢
    obtain ⟨r2, s2⟩ := r2
    intro v2 w2 G2 k2 n2 hc2 hv2 hle2 hk2 hn2
    refine ⟨_, rfl, ?_⟩
    replace hk2 : k2 + pK s2 ≤ pK s1 + 0 := hk2
    replace hn2 : n2 + pN s2 ≤ pN s1 + 0 := hn2
    replace hc2 : CI dA c P mk w2 G2 s2 := hc2
    replace hle2 : LEx c _ _ _ w2 G2 s2 := hle2
    have hi2 : i ≤ sN s2 := Nat.le_trans hi1 hle2.2.2.2.2.1
    have hxx2 := XP_le hle2 hxx1
    obtain ⟨num2, hx2⟩ := id hxx2
    obtain ⟨ea2, eb2, hev2⟩ := CI_obj hc2
    have hle02 := LE_trans hle1 hle2
    cases r2 with
    | none =>
      replace hv2 : v2 = .null := hv2
      subst hv2
      repeat refine z_i rfl rfl ?_
      refine z_bf rfl rfl (fun q => q) ?_
      repeat refine z_i rfl rfl ?_
      exact z_retA rfl rfl (by omega) (by omega) (hQ .null w2 G2 _ _ hc2 rfl hle02 (by show _ + pK s2 ≤ _; omega) (by show _ + pN s2 ≤ _; omega))
    | some y2 =>
      replace hv2 : rv dA c P mk w2 G2 s2 v2 y2 := hv2
      obtain ⟨b, rfl⟩ := rv_ref hv2
      replace hv1 := rv_le hle2 hv1
      rw [← (hle2.2.1 i hi1).1]
      replace hQ : zend dA c P mk w G s (e_rpl P (e_ev P d) e i y1 y2 s2) 2 17 Q := hQ
      have h54 : zend dA c P mk w G s (e_fail s2 3) 2 17 Q → zx dA D K N M_Evaluator_replace 54 [some (.ref (c 0)), some (.ref x), some (.ref (ge G2 i)), some (.int op), some (.ref a), some (.ref b), none, none, none, none, none] [] w2 (0 + k1 + k2) (0 + n1 + n2) Q := by
        intro hQ
        repeat refine z_i rfl rfl ?_
        refine z_cVk [.int 3] [] 0 0 0 rfl hev2 rfl rfl (Nat.le_of_ble_eq_true rfl) (Nat.le_of_ble_eq_true rfl) (by omega) (by omega) (by omega) (r_failC hc2 (zend_ret rfl hle02 (by omega) (by omega) (by omega) (by omega) hQ))
      have hcl1 := rv_cls hv1
      have hcl2 := rv_cls hv2
      repeat refine z_i rfl rfl ?_
      refine z_bt rfl rfl trivial ?_
      repeat refine z_i rfl rfl ?_
      cases y1 with
      | inr f1 =>
        obtain ⟨fs1, hcl1⟩ := hcl1
        refine z_instF rfl (by simp) hcl1 ?_
        refine z_bt rfl rfl rfl ?_
        refine h54 ?_
        cases y2 <;> exact hQ
      | inl ys =>
        obtain ⟨fs1, hcl1⟩ := hcl1
        refine z_instY rfl (by simp) hcl1 ?_
        refine z_bf rfl rfl (by intro q; cases q) ?_
        repeat refine z_i rfl rfl ?_
        cases y2 with
        | inr f2 =>
          obtain ⟨fs2, hcl2⟩ := hcl2
          refine z_instF rfl (by simp) hcl2 ?_
          refine z_bf rfl rfl (fun q => q rfl) ?_
          exact h54 hQ
        | inl zs =>
          obtain ⟨fs2, hcl2⟩ := hcl2
          refine z_instY rfl (by simp) hcl2 ?_
          refine z_bt rfl rfl (by intro q; cases q) ?_
          repeat refine z_i rfl rfl ?_
          refine z_get rfl hx2 rfl ?_
          obtain ⟨ou, ca, hh, q1, q2⟩ := CI_row hc2 hi2
          have h89 : ∀ (o6 : Option Value) (v3 : Value) (w3 : ww_W) (G3 : gG) (k3 n3 : Nat) (r3 : aR), zend dA c P mk w G s (e_bd r3 (fun o s3 => e_rpo o ys zs s3 i (tN (pa P e)))) 2 17 Q → CI dA c P mk w3 G3 r3.2 → rvO dA c P mk w3 G3 r3.2 v3 r3.1 → LEx c w2 G2 s2 w3 G3 r3.2 → k3 + pK r3.2 ≤ pK s2 → n3 + pN r3.2 ≤ pN s2 →
              zx dA D K N M_Evaluator_replace 89 [some (.ref (c 0)), some (.ref x), some (.ref (ge G2 i)), some (.int op), some (.ref a), some (.ref b), o6, none, none, none, none] [v3] w3 (0 + k1 + k2 + k3) (0 + n1 + n2 + n3) Q := by
            intro o6 v3 w3 G3 k3 n3 r3 hQ hc3 hv3 hle3 hk3 hn3
            obtain ⟨r3, s3⟩ := r3
            replace hc3 : CI dA c P mk w3 G3 s3 := hc3
            replace hle3 : LEx c w2 G2 s2 w3 G3 s3 := hle3
            replace hk3 : k3 + pK s3 ≤ pK s2 := hk3
            replace hn3 : n3 + pN s3 ≤ pN s2 := hn3
            obtain ⟨num3, hx3⟩ := XP_le hle3 hxx2
            obtain ⟨ea3, eb3, hev3⟩ := CI_obj hc3
            have hle03 := LE_trans hle02 hle3
            have hi3 : i ≤ sN s3 := Nat.le_trans hi2 hle3.2.2.2.2.1
            replace hv1 := rv_le hle3 hv1
            replace hv2 := rv_le hle3 hv2
            rw [← (hle3.2.1 i hi2).1]
            cases r3 with
            | none =>
              replace hv3 : v3 = .null := hv3
              subst hv3
              repeat refine z_i rfl rfl ?_
              refine z_bf rfl rfl (fun q => q) ?_
              repeat refine z_i rfl rfl ?_
              exact z_retA rfl rfl (by omega) (by omega) (hQ .null w3 G3 _ _ hc3 rfl hle03 (by show _ + pK s3 ≤ _; omega) (by show _ + pN s3 ≤ _; omega))
            | some y3 =>
              replace hv3 : rv dA c P mk w3 G3 s3 v3 y3 := hv3
              obtain ⟨b3, rfl⟩ := rv_ref hv3
              replace hQ : zend dA c P mk w G s (e_rpo y3 ys zs s3 i (tN (pa P e))) 2 17 Q := hQ
              have hcl3 := rv_cls hv3
              repeat refine z_i rfl rfl ?_
              refine z_bt rfl rfl trivial ?_
              repeat refine z_i rfl rfl ?_
              cases y3 with
              | inr f3 =>
                obtain ⟨fs3, hcl3⟩ := hcl3
                refine z_instF rfl (by simp) hcl3 ?_
                refine z_bt rfl rfl rfl ?_
                repeat refine z_i rfl rfl ?_
                refine z_cVk [.int 3] [] 0 0 0 rfl hev3 rfl rfl (Nat.le_of_ble_eq_true rfl) (Nat.le_of_ble_eq_true rfl) (by omega) (by omega) (by omega) (r_failC hc3 (zend_ret rfl hle03 (by omega) (by omega) (by omega) (by omega) hQ))
              | inl xs =>
                obtain ⟨fs3, hcl3⟩ := hcl3
                obtain ⟨a', qa, fa, p1, p2, p3, p4, p5, p6⟩ := hv1
                cases p1
                obtain ⟨b', qb, fb, t1, t2, t3, t4, t5, t6⟩ := hv2
                cases t1
                obtain ⟨c', qc, fc, u1, u2, u3, u4, u5, u6⟩ := hv3
                cases u1
                refine z_instY rfl (by simp) hcl3 ?_
                refine z_bf rfl rfl (by intro q; cases q) ?_
                repeat refine z_i rfl rfl ?_
                refine z_cast rfl (by simp) hcl3 ?_
                repeat refine z_i rfl rfl ?_
                refine z_instY rfl (by simp) p2 ?_
                refine z_bf rfl rfl (by intro q; cases q) ?_
                repeat refine z_i rfl rfl ?_
                refine z_cast rfl (by simp) p2 ?_
                repeat refine z_i rfl rfl ?_
                refine z_instY rfl (by simp) t2 ?_
                refine z_bf rfl rfl (by intro q; cases q) ?_
                repeat refine z_i rfl rfl ?_
                refine z_cast rfl (by simp) t2 ?_
                repeat refine z_i rfl rfl ?_
                refine z_get rfl u2 rfl ?_
                repeat refine z_i rfl rfl ?_
                refine z_get rfl p2 rfl ?_
                repeat refine z_i rfl rfl ?_
                refine z_get rfl hx3 rfl ?_
                refine z_cVk [.ref qc, .ref qa, .ref b, .ref (ge G3 i), .int (pa P e)] [] 4 2 17 rfl hev3 rfl rfl (Nat.le_of_ble_eq_true rfl) (Nat.le_of_ble_eq_true rfl) (by omega) (by omega) (by omega) (r_storeC hva hc3 hi3 hva2 (by omega) (by omega) (by omega) u3 p3 t2 t3 u4 p4 t4 u5.1 p5.1 t5 u6 p6 t6 (zend_ret (ck := 2) (cn := 17) rfl hle03 (by omega) (by omega) (by omega) (by omega) hQ))
          replace hQ : zend dA c P mk w G s (e_bd (e_old P (e_ev P d) e i s2) (fun o s3 => e_rpo o ys zs s3 i (tN (pa P e)))) 2 17 Q := hQ
          unfold e_old at hQ
          refine z_cVk [.int (pa P e)] [] 0 0 0 rfl q1 rfl rfl (Nat.le_of_ble_eq_true rfl) (Nat.le_of_ble_eq_true rfl) (by omega) (by omega) (by omega) (r_lookUp hva hc2 hva2 hi2 (fun hp => ⟨_, rfl, ?_⟩) (fun i' a3 hp hi' hrs => ⟨_, rfl, ?_⟩))
          · rw [hp] at hQ
            repeat refine z_i rfl rfl ?_
            refine z_bf rfl rfl (fun q => q) ?_
            repeat refine z_i rfl rfl ?_
            refine z_get rfl hev2 rfl ?_
            refine z_j rfl ?_
            exact h89 _ _ w2 G2 0 0 (e_nul, s2) hQ hc2 (CI_nul hc2) LE_refl (by show _ + pK s2 ≤ _; omega) (by show _ + pN s2 ≤ _; omega)
          · rw [hp] at hQ
            repeat refine z_i rfl rfl ?_
            refine z_bt rfl rfl trivial ?_
            repeat refine z_i rfl rfl ?_
            refine z_cVk [.ref a3, .int op] [] (dD d + 2) (K - k1 - k2) (N - n1 - n2) rfl hev2 rfl rfl (Nat.le_of_ble_eq_true rfl) (Nat.le_of_ble_eq_true rfl) (by omega) (by omega) (by omega) (r_valueOf IH hc2 (Nat.le_refl _) (by omega) (by omega) hop hi' hva2 hrs ?_)
            intro v3 w3 G3 k3 n3 hc3 hv3 hle3 hk3' hn3
            refine ⟨_, rfl, ?_⟩
            exact h89 _ v3 w3 G3 k3 n3 _ hQ hc3 hv3 hle3 (by omega) (by omega)
end EVJ
