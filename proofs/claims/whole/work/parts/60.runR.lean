/-! the reference's run -/
section RR
variable {dA : Nat → ClassId} {b : Nat → Nat} {w : ww_W} {P : aP} {mk B n q : Nat} {res : rP} {S S' : mm} {F : List fF} {x : Option aV} {s : aS} {y : Int32} {d : Nat} {Q : zQ}
/-- how a failure is told -/
def p_code (x : Int32) : Int32 := if x = 4 then 1 else if x = 1 then 2 else if x = 8 then 2 else if x = 2 then 3 else if x = 9 then 3 else if x = 3 then 4 else if x = 6 then 4 else 5
def vsz : aV → Int32
  | .inl xs => nI xs.length
  | .inr _ => -1
theorem r_made (hb : mB b) (hd : 1 ≤ d) {z : Int32} (h5 : S.1 5 = nI mk) (hmk : mk ≤ 120) (hQ : Q (.inl (some (.int (p_btw z 0 (nI mk - 1))))) (mw dA b w S) 0 0) : zx dA d 0 0 M_VectorLanguageModel_made 0 (zargs 2 [.ref (b 0), .int z]) [] (mw dA b w S) 0 0 Q := by
  repeat first | refine z_i rfl rfl ?_ | refine m_gt hb rfl rfl ?_
  rw [h5]
  refine z_cSk [.int z, .int 0, .int (nI mk - 1)] [] 0 0 0 rfl rfl rfl (Nat.le_of_ble_eq_true rfl) (Nat.le_of_ble_eq_true rfl) (by omega) (by omega) (by omega) (r_between dA 0 _ _ _ _ _ ⟨_, rfl, ?_⟩)
  refine z_retZ rfl ?_ (Nat.zero_le _) (Nat.zero_le _) hQ
  unfold p_btw
  split
  · exact Or.inl rfl
  · split
    · exact Or.inl rfl
    · exact Or.inr rfl
theorem r_raise2 (hb : mB b) {z : Int32} (hQ : Q (.inl (some (.int 0))) (mw dA b w (jI S 0 z)) 0 0) : zx dA d 0 0 M_VectorLanguageModel_raise 0 (zargs 2 [.ref (b 0), .int z]) [] (mw dA b w S) 0 0 Q := by
  repeat first | refine z_i rfl rfl ?_ | refine m_gt hb rfl rfl ?_
  refine m_pt hb rfl rfl ?_
  repeat first | refine z_i rfl rfl ?_ | refine m_gt hb rfl rfl ?_
  exact z_retI rfl (Nat.zero_le _) (Nat.zero_le _) hQ
theorem p_btw_in {z : Int32} (hmk : mk ≤ 120) : (p_btw z 0 (nI mk - 1) = 1 ↔ ∃ e : Nat, e < mk ∧ z = nI e) ∧ (p_btw z 0 (nI mk - 1) = 0 ∨ p_btw z 0 (nI mk - 1) = 1) := by
  have e1 : (nI mk - 1).toInt = (mk : Int) - 1 := by rw [i32_sub (by rw [nI_toInt (by omega), i1]; omega) (by rw [nI_toInt (by omega), i1]; omega), nI_toInt (by omega), i1]
  unfold p_btw
  by_cases h1 : z < 0
  · rw [if_pos h1]
    refine ⟨⟨fun q => absurd q (by decide), fun ⟨e, he, hz⟩ => ?_⟩, Or.inl rfl⟩
    rw [hz] at h1
    exact absurd h1 (nI_pos (by omega))
  · rw [if_neg h1]
    by_cases h2 : nI mk - 1 < z
    · rw [if_pos h2]
      refine ⟨⟨fun q => absurd q (by decide), fun ⟨e, he, hz⟩ => ?_⟩, Or.inl rfl⟩
      rw [hz, Int32.lt_iff_toInt_lt, e1, nI_toInt (by omega)] at h2
      omega
    · rw [if_neg h2]
      refine ⟨⟨fun _ => ?_, fun _ => rfl⟩, Or.inr rfl⟩
      rw [Int32.lt_iff_toInt_lt, show (0 : Int32).toInt = 0 by decide] at h1
      rw [Int32.lt_iff_toInt_lt, e1] at h2
      exact ⟨z.toInt.toNat, by omega, Int32.toInt_inj.mp (by rw [nI_toInt (by omega)]; omega)⟩
/-- a run begins -/
theorem MR_begin (h : MR P mk B res 1000 S [] none s) (hB : sF s + 400 < 2 ^ 61) : MR P mk (sF s + 400) res 1000 (jI (jI (jI (jI (jI S 25 0) 26 0) 27 0) 28 0) 29 0) [] none (uX (uA (uT s 0) 0) 0) := by
  obtain ⟨⟨a1, a2, a3, a4, a5, a6, a7, a8⟩, m2, m3, m4, m5, m6, c1, c2, c3, c4, c5, c6, c7, c8, c9⟩ := h
  refine ⟨⟨rfl, rfl, rfl, rfl, rfl, a6, a7, a8⟩, m2, m3, m4, m5, trivial, c1, c2, c3, Nat.zero_le _, ?_, c6, c7, c8, c9⟩
  show sF s + 400 ≤ sF s + 400 + 0 ∧ _
  omega
set_option maxRecDepth 100000 in
theorem r_runR (hb : mB b) (hd : 7 ≤ d) {e : Nat} (hmk : mk ≤ 120) (hP : ∀ e : Nat, e < mk → okE e (kd P e) (pa P e) (pb P e) (pc P e)) (h : MR P mk B res 1000 (jI S 0 0) [] none s) (he : e < mk) (hB : sF s + 400 < 2 ^ 61)
    (hv : ∀ (v : aV) (s' : aS) (S1 : mm) (y : Int32), e_run P s e = (some v, s') → sX s' = 0 → MR P mk (sF s + 400) (some v, y) 1000 S1 [] none s' → Q (.inl (some (.int (vsz v)))) (mw dA b w (jI S1 31 0)) 0 0)
    (hf : ∀ (s' : aS) (S1 : mm), e_run P s e = (none, s') → ¬ sX s' = 0 → MR P mk (sF s + 400) res 1000 S1 [] none s' → Q (.inl (some (.int 0))) (mw dA b w (jI (jI S1 31 (sX s')) 0 (p_code (sX s')))) 0 0) : zx dA d 0 0 M_VectorLanguageModel_run 0 (zargs 3 [.ref (b 0), .int (nI e)]) [] (mw dA b w S) 0 0 Q := by
  have h5 : S.1 5 = nI mk := h.1.2.2.2.2.2.2.1
  have h30 : S.1 30 = res.2 := h.2.2.1.2.2.2.1
  have hbeg := MR_begin h hB
  have hrun : e_run P s e = (match (e_ev P 40 (uX (uA (uT s 0) 0) 0) e 0).1 with
    | some v => (some v, (e_ev P 40 (uX (uA (uT s 0) 0) 0) e 0).2)
    | none => e_take (e_ev P 40 (uX (uA (uT s 0) 0) 0) e 0).2 0) := rfl
  have hbt : p_btw (nI e) 0 (nI mk - 1) = 1 := (p_btw_in hmk).1.mpr ⟨e, he, rfl⟩
  repeat first | refine z_i rfl rfl ?_ | refine m_gt hb rfl rfl ?_
  refine m_pt hb rfl rfl ?_
  repeat first | refine z_i rfl rfl ?_ | refine m_gt hb rfl rfl ?_
  refine z_cVk [.int (nI e)] [] 1 0 0 rfl (m_obj hb) rfl rfl (Nat.le_of_ble_eq_true rfl) (Nat.le_of_ble_eq_true rfl) (by omega) (by omega) (by omega) (r_made hb (by omega) h5 hmk ⟨_, rfl, ?_⟩)
  rw [hbt]
  refine z_bt rfl rfl (show ¬ (1 : Int32) = 0 by decide) ?_
  repeat first | refine z_i rfl rfl ?_ | refine m_gt hb rfl rfl ?_
  rw [show (jI S 0 0).1 30 = res.2 from h30]
  repeat first | refine z_i rfl rfl ?_ | refine m_gt hb rfl rfl ?_
  refine m_pt hb rfl rfl ?_
  repeat first | refine z_i rfl rfl ?_ | refine m_gt hb rfl rfl ?_
  refine m_pt hb rfl rfl ?_
  repeat first | refine z_i rfl rfl ?_ | refine m_gt hb rfl rfl ?_
  refine m_pt hb rfl rfl ?_
  repeat first | refine z_i rfl rfl ?_ | refine m_gt hb rfl rfl ?_
  refine m_pt hb rfl rfl ?_
  repeat first | refine z_i rfl rfl ?_ | refine m_gt hb rfl rfl ?_
  refine m_pt hb rfl rfl ?_
  repeat first | refine z_i rfl rfl ?_ | refine m_gt hb rfl rfl ?_
  have hctx : Ctx dA b w (fun S => (S.1 29 = 0 → zx dA d 0 0 M_VectorLanguageModel_run 55 [some (.ref (b 0)), some (.int (nI e)), some (.int res.2)] [] (mw dA b w S) 0 0 Q) ∧ (¬ S.1 29 = 0 → UU dA b w (zcont dA d 0 0 M_VectorLanguageModel_run 77 [some (.ref (b 0)), some (.int (nI e)), some (.int res.2)] [] 0 0 Q) S)) (fun S => zx dA d 0 0 M_VectorLanguageModel_run 55 [some (.ref (b 0)), some (.int (nI e)), some (.int res.2)] [] (mw dA b w S) 0 0 Q) (zcont dA d 0 0 M_VectorLanguageModel_run 77 [some (.ref (b 0)), some (.int (nI e)), some (.int res.2)] [] 0 0 Q) := by
    refine ⟨fun S g1 g2 => ⟨g1, g2⟩, fun S g1 g2 => ?_, fun S g1 => ⟨none, rfl, z_j rfl g1⟩⟩
    refine z_i rfl rfl ?_
    refine m_gt hb rfl rfl ?_
    refine z_bf rfl rfl g1 ?_
    repeat first | refine z_i rfl rfl ?_ | refine m_gt hb rfl rfl ?_
    refine z_cVk [] [] 6 0 0 rfl (m_obj hb) rfl rfl (Nat.le_of_ble_eq_true rfl) (Nat.le_of_ble_eq_true rfl) (by omega) (by omega) (by omega) (g2 _ (fun S' hS' => ⟨_, rfl, ?_⟩))
    refine z_i rfl rfl ?_
    refine m_gt hb rfl rfl ?_
    refine z_b rfl rfl (fun g3 => hS'.1 g3) (fun g3 => ?_)
    repeat first | refine z_i rfl rfl ?_ | refine m_gt hb rfl rfl ?_
    refine z_cVk [] [] 6 0 0 rfl (m_obj hb) rfl rfl (Nat.le_of_ble_eq_true rfl) (Nat.le_of_ble_eq_true rfl) (by omega) (by omega) (by omega) (hS'.2 g3 none none none)
  have hend1 : ∀ (v : aV) (s' : aS) (S1 : mm) (y : Int32), e_run P s e = (some v, s') → sX s' = 0 → MR P mk (sF s + 400) (some v, y) 1000 S1 [] none s' → zx dA d 0 0 M_VectorLanguageModel_run 55 [some (.ref (b 0)), some (.int (nI e)), some (.int res.2)] [] (mw dA b w S1) 0 0 Q := by
    intro v s' S1 y hr hX hm
    have a1 := hm.1.1
    have a5 : S1.1 29 = 0 := hm.1.2.2.2.2.1.trans hX
    obtain ⟨j, j1, j2, j3, j4, j5⟩ := hm.2.2.1.2.2.1
    have hsz : S1.2.2.2 7 j = vsz v := by
      cases v with
      | inl xs => exact j5.1
      | inr fn => exact j5.1
    refine z_i rfl rfl ?_
    refine m_gt hb rfl rfl ?_
    refine z_bt rfl rfl (show S1.1 25 ≤ 0 by rw [a1]; decide) ?_
    repeat first | refine z_i rfl rfl ?_ | refine m_gt hb rfl rfl ?_
    rw [a5]
    refine m_pt hb rfl rfl ?_
    repeat first | refine z_i rfl rfl ?_ | refine m_gt hb rfl rfl ?_
    refine z_bf rfl rfl (fun q => q a5) ?_
    repeat first | refine z_i rfl rfl ?_ | refine m_gt hb rfl rfl ?_
    refine m_ldv hb (j := j) rfl rfl j1 j2 hsz ?_
    exact z_retI rfl (Nat.zero_le _) (Nat.zero_le _) (hv v s' S1 y hr hX hm)
  have hend2 : ∀ (s' : aS) (S1 : mm), e_run P s e = (none, s') → ¬ sX s' = 0 → MR P mk (sF s + 400) res 1000 S1 [] none s' → zx dA d 0 0 M_VectorLanguageModel_run 55 [some (.ref (b 0)), some (.int (nI e)), some (.int res.2)] [] (mw dA b w S1) 0 0 Q := by
    intro s' S1 hr hX hm
    have a1 := hm.1.1
    have a5 : S1.1 29 = sX s' := hm.1.2.2.2.2.1
    have a30 : S1.1 30 = res.2 := hm.2.2.1.2.2.2.1
    have hfin := hf s' S1 hr hX hm
    have e1 : jI (jI S1 31 (sX s')) 30 res.2 = jI S1 31 (sX s') := jI_self a30
    have hcode : ∀ z : Int32, p_code (sX s') = z → zx dA d 0 0 M_VectorLanguageModel_run 187 [some (.ref (b 0)), some (.int (nI e)), some (.int res.2)] [.int z, .ref (b 0)] (mw dA b w (jI S1 31 (sX s'))) 0 0 Q := by
      intro z hz
      subst hz
      refine z_cVk [.int (p_code (sX s'))] [] 0 0 0 rfl (m_obj hb) rfl rfl (Nat.le_of_ble_eq_true rfl) (Nat.le_of_ble_eq_true rfl) (by omega) (by omega) (by omega) (r_raise2 hb ⟨_, rfl, ?_⟩)
      exact z_retI rfl (Nat.zero_le _) (Nat.zero_le _) hfin
    refine z_i rfl rfl ?_
    refine m_gt hb rfl rfl ?_
    refine z_bt rfl rfl (show S1.1 25 ≤ 0 by rw [a1]; decide) ?_
    repeat first | refine z_i rfl rfl ?_ | refine m_gt hb rfl rfl ?_
    rw [a5]
    refine m_pt hb rfl rfl ?_
    repeat first | refine z_i rfl rfl ?_ | refine m_gt hb rfl rfl ?_
    refine z_bt rfl rfl (show ¬ S1.1 29 = 0 by rw [a5]; exact hX) ?_
    repeat first | refine z_i rfl rfl ?_ | refine m_gt hb rfl rfl ?_
    refine m_pt hb rfl rfl ?_
    rw [e1]
    generalize hxx : sX s' = xx at hcode a5 ⊢
    unfold p_code at hcode
    repeat first | refine z_i rfl rfl ?_ | refine m_gt hb rfl rfl ?_
    refine z_b rfl rfl (fun g4 => ?_) (fun g4 => ?_)
    · replace g4 : ¬ xx = 4 := by rw [← a5]; exact g4
      rw [if_neg g4] at hcode
      have h2 : (xx = 1 ∨ xx = 8) → zx dA d 0 0 M_VectorLanguageModel_run 140 [some (.ref (b 0)), some (.int (nI e)), some (.int res.2)] [.ref (b 0)] (mw dA b w (jI S1 31 xx)) 0 0 Q := by
        intro q
        refine z_i rfl rfl ?_
        refine z_j rfl ?_
        refine hcode 2 ?_
        rcases q with q | q
        · rw [if_pos q]
        · by_cases q1 : xx = 1
          · rw [if_pos q1]
          · rw [if_neg q1, if_pos q]
      repeat first | refine z_i rfl rfl ?_ | refine m_gt hb rfl rfl ?_
      refine z_b rfl rfl (fun g1 => h2 (Or.inl (by rw [← a5]; exact g1))) (fun g1 => ?_)
      replace g1 : ¬ xx = 1 := by rw [← a5]; exact g1
      repeat first | refine z_i rfl rfl ?_ | refine m_gt hb rfl rfl ?_
      refine z_b rfl rfl (fun g8 => ?_) (fun g8 => h2 (Or.inr (by rw [← a5]; exact Classical.not_not.mp g8)))
      replace g8 : ¬ xx = 8 := by rw [← a5]; exact g8
      rw [if_neg g1, if_neg g8] at hcode
      have h3 : (xx = 2 ∨ xx = 9) → zx dA d 0 0 M_VectorLanguageModel_run 161 [some (.ref (b 0)), some (.int (nI e)), some (.int res.2)] [.ref (b 0)] (mw dA b w (jI S1 31 xx)) 0 0 Q := by
        intro q
        refine z_i rfl rfl ?_
        refine z_j rfl ?_
        refine hcode 3 ?_
        rcases q with q | q
        · rw [if_pos q]
        · by_cases q1 : xx = 2
          · rw [if_pos q1]
          · rw [if_neg q1, if_pos q]
      repeat first | refine z_i rfl rfl ?_ | refine m_gt hb rfl rfl ?_
      refine z_b rfl rfl (fun g2 => h3 (Or.inl (by rw [← a5]; exact g2))) (fun g2 => ?_)
      replace g2 : ¬ xx = 2 := by rw [← a5]; exact g2
      repeat first | refine z_i rfl rfl ?_ | refine m_gt hb rfl rfl ?_
      refine z_b rfl rfl (fun g9 => ?_) (fun g9 => h3 (Or.inr (by rw [← a5]; exact Classical.not_not.mp g9)))
      replace g9 : ¬ xx = 9 := by rw [← a5]; exact g9
      rw [if_neg g2, if_neg g9] at hcode
      have h4 : (xx = 3 ∨ xx = 6) → zx dA d 0 0 M_VectorLanguageModel_run 182 [some (.ref (b 0)), some (.int (nI e)), some (.int res.2)] [.ref (b 0)] (mw dA b w (jI S1 31 xx)) 0 0 Q := by
        intro q
        refine z_i rfl rfl ?_
        refine z_j rfl ?_
        refine hcode 4 ?_
        rcases q with q | q
        · rw [if_pos q]
        · by_cases q1 : xx = 3
          · rw [if_pos q1]
          · rw [if_neg q1, if_pos q]
      repeat first | refine z_i rfl rfl ?_ | refine m_gt hb rfl rfl ?_
      refine z_b rfl rfl (fun g3 => h4 (Or.inl (by rw [← a5]; exact g3))) (fun g3 => ?_)
      replace g3 : ¬ xx = 3 := by rw [← a5]; exact g3
      repeat first | refine z_i rfl rfl ?_ | refine m_gt hb rfl rfl ?_
      refine z_b rfl rfl (fun g6 => ?_) (fun g6 => h4 (Or.inr (by rw [← a5]; exact Classical.not_not.mp g6)))
      replace g6 : ¬ xx = 6 := by rw [← a5]; exact g6
      rw [if_neg g3, if_neg g6] at hcode
      refine z_i rfl rfl ?_
      exact hcode 5 rfl
    · replace g4 : xx = 4 := by rw [← a5]; exact Classical.not_not.mp g4
      rw [if_pos g4] at hcode
      refine z_i rfl rfl ?_
      refine z_j rfl ?_
      exact hcode 1 rfl
  have hKK : KK dA b w (fun S => (S.1 29 = 0 → zx dA d 0 0 M_VectorLanguageModel_run 55 [some (.ref (b 0)), some (.int (nI e)), some (.int res.2)] [] (mw dA b w S) 0 0 Q) ∧ (¬ S.1 29 = 0 → UU dA b w (zcont dA d 0 0 M_VectorLanguageModel_run 77 [some (.ref (b 0)), some (.int (nI e)), some (.int res.2)] [] 0 0 Q) S)) (zcont dA d 0 0 M_VectorLanguageModel_run 77 [some (.ref (b 0)), some (.int (nI e)), some (.int res.2)] [] 0 0 Q) P mk (sF s + 400) res [] (e_ev P 40 (uX (uA (uT s 0) 0) 0) e 0) := by
    refine ⟨fun v s' hr hX S1 y hm hv1 d' Q' hq' => ?_, fun s' hr hX S1 hm o1 o2 o3 => ?_, fun s' i v hr hX hR S1 y hm hv1 hi hO => ?_⟩
    · rw [hr] at hrun
      refine r_over_nil hb hm (hq' _ ⟨fun _ => hend1 v s' _ y hrun hX (MR_res hm hv1), fun g => absurd ?_ g⟩)
      exact hm.1.2.2.2.2.1.trans hX
    · have hR : sR s' = none := hm.2.2.2.2.2.2.2.2.2.2.2.1
      have e1 : e_take s' 0 = (none, s') := by unfold e_take; rw [hR]
      rw [hr] at hrun
      replace hrun : e_run P s e = e_take s' 0 := hrun
      rw [e1] at hrun
      have a1 := hm.1.1
      refine z_i rfl rfl ?_
      refine m_gt hb rfl rfl ?_
      refine z_bf rfl rfl (show ¬ S1.1 29 = 0 by rw [hm.1.2.2.2.2.1]; exact hX) ?_
      repeat first | refine z_i rfl rfl ?_ | refine m_gt hb rfl rfl ?_
      refine z_bt rfl rfl (show S1.1 25 ≤ 0 by rw [a1]; decide) ?_
      exact z_retV rfl (Nat.zero_le _) (Nat.zero_le _) ⟨none, rfl, z_j rfl (hend2 s' S1 hrun hX hm)⟩
    · have hi0 : i = 0 := by
        refine Classical.byContradiction fun hn => ?_
        have c7 := hm.2.2.2.2.2.2.2.2.2.2.2.2.1 i (by omega) hi
        exact absurd (c7.mp hO) (by simp)
      subst hi0
      have e1 : e_take s' 0 = (some v, uR s' none) := by unfold e_take; rw [hR]; rfl
      rw [hr] at hrun
      replace hrun : e_run P s e = e_take s' 0 := hrun
      rw [e1] at hrun
      refine L_nil hb hm ⟨fun _ => hend1 v _ _ y hrun hX (MR_res hm hv1), fun g => absurd ?_ g⟩
      exact hm.1.2.2.2.2.1.trans hX
  refine z_cVk [.int (nI e), .int (nI 0)] [] 1 0 0 rfl (m_obj hb) rfl rfl (Nat.le_of_ble_eq_true rfl) (Nat.le_of_ble_eq_true rfl) (by omega) (by omega) (by omega) (r_begin hb (by omega) hmk hbeg he (Nat.zero_le _) (fun g => ?_) (fun g1 g2 => ⟨_, rfl, ?_⟩))
  · rcases g with g | g
    · exact absurd g (by show ¬ 400 ≤ 0; decide)
    · exact absurd g (by decide)
  · have hm := MR_pushW hbeg g2 g1 he (Nat.zero_le _)
    have a1 := hm.1.1
    refine hctx.2.1 _ (by rw [a1]; exact nI_nle (n := 1) (by decide) (by decide)) (sim_stp hb hctx (fun S g => g) hmk hP (sim_all hb hctx (fun S g => g) hmk hP 39) he hm rfl rfl ?_ hKK)
    show sF s + 401 ≤ sF s + 400 + 1
    omega
end RR
