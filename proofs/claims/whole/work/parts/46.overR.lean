/-! the reference's frames: links, over, place, give -/
section FN
variable {dA : Nat → ClassId} {b : Nat → Nat} {w : ww_W} {S S' : mm} {d : Nat} {Q : zQ} {P : aP} {mk B n n' q q' : Nat} {res : rP} {F : List fF} {x : Option aV} {s : aS} {y : Int32}
theorem e1_uO {i i' : Nat} {t : Bool} : (uO s i t).1 i' = if i' = i then ((s.1 i).1, (s.1 i).2.1, (s.1 i).2.2.1, t) else s.1 i' := by
  unfold uO
  by_cases h : i' = i
  · subst h; simp only [va_up_self, if_true]
  · simp only [va_up_ne _ _ h, if_neg h]
theorem sL_uO {i i' j : Nat} {t : Bool} : sL (uO s i t) i' j = sL s i' j := by
  unfold sL; rw [e1_uO]; split
  · rename_i h; subst h; rfl
  · rfl
theorem sC_uO {i i' : Nat} {t : Bool} : sC (uO s i t) i' = sC s i' := by
  unfold sC; rw [e1_uO]; split
  · rename_i h; subst h; rfl
  · rfl
theorem sG_uO {i i' : Nat} {t : Bool} : sG (uO s i t) i' = sG s i' := by
  unfold sG; rw [e1_uO]; split
  · rename_i h; subst h; rfl
  · rfl
theorem sO_uO {i i' : Nat} {t : Bool} : sO (uO s i t) i' = if i' = i then t else sO s i' := by
  unfold sO; rw [e1_uO]; split
  · rfl
  · rfl
/-- a link taken off -/
def drL (S : mm) : mm := jI S 25 (S.1 25 - 1)
theorem MR_popA {i j : Nat} (h : MR P mk B res 1000 S (fa i j :: F) x s) : MR P mk B res 1000 (drL S) F none s := by
  obtain ⟨⟨a1, a2, a3, a4, a5, a6, a7, a8⟩, m2, m3, m4, m5, m6, c1, c2, c3, c4, c5, c6, c7, c8, c9⟩ := h
  refine ⟨⟨?_, a2, a3, a4, a5, a6, a7, a8⟩, m2, m3, m4, m5, FR_at (S := S) (S' := drL S) (n := sN s) (q := 1000) (Nat.le_refl _) (fun _ _ hv => hv) F none (fun _ _ _ _ _ => rfl) m6.2, c1.2, c2, c3, c4, c5, c6, fun i h1 h2 => ?_, c8, fun i j hh => c9 i j (List.mem_cons_of_mem _ hh)⟩
  · show S.1 25 - 1 = nI F.length
    rw [a1, List.length_cons, nI_pred]
  · refine (c7 i h1 h2).trans ⟨fun q => ?_, fun q => List.mem_cons_of_mem _ q⟩
    rcases List.mem_cons.mp q with q | q
    · cases q
    · exact q
theorem MR_popC {i : Nat} (h : MR P mk B res 1000 S (fc i :: F) x s) (hnot : fc i ∉ F) : MR P mk B res 1000 (drL S) F none (uO s i true) := by
  obtain ⟨⟨a1, a2, a3, a4, a5, a6, a7, a8⟩, m2, m3, m4, m5, m6, c1, c2, c3, c4, c5, c6, c7, c8, c9⟩ := h
  obtain ⟨_, _, _, _, _, hi0, hi⟩ := m6.1
  refine ⟨⟨?_, a2, a3, a4, a5, a6, a7, a8⟩, m2, m3, fun i' hi' => ?_, ⟨fun i' j' hi' hj' => ?_, m5.2⟩, FR_at (S := S) (S' := drL S) (n := sN s) (q := 1000) (Nat.le_refl _) (fun _ _ hv => hv) F none (fun _ _ _ _ _ => rfl) m6.2, c1.2, c2, c3, c4, c5, c6, fun i' h1 h2 => ?_, ?_, fun i' j' hh => ?_⟩
  · show S.1 25 - 1 = nI F.length
    rw [a1, List.length_cons, nI_pred]
  · rw [sC_uO, sG_uO]
    exact m4 i' hi'
  · rw [sL_uO]
    exact m5.1 i' j' hi' hj'
  · rw [sO_uO]
    by_cases hii : i' = i
    · rw [if_pos hii, hii]
      exact ⟨fun q => (by cases q), fun q => absurd q hnot⟩
    · rw [if_neg hii]
      refine (c7 i' h1 h2).trans ⟨fun q => ?_, fun q => List.mem_cons_of_mem _ q⟩
      rcases List.mem_cons.mp q with q | q
      · exact absurd (by cases q; rfl) hii
      · exact q
  · rw [sO_uO, if_neg (by omega)]
    exact c8
  · rw [sL_uO]
    exact c9 i' j' (List.mem_cons_of_mem _ hh)
theorem MR_args (h : MR P mk B res q S F x s) : MR P mk B res q (jI S 28 (S.1 28 + 1)) F x (uA s (sA s + 1)) := by
  obtain ⟨⟨a1, a2, a3, a4, a5, a6, a7, a8⟩, m2, m3, m4, m5, m6, m7⟩ := h
  refine ⟨⟨a1, a2, a3, ?_, a5, a6, a7, a8⟩, m2, m3, m4, m5, FR_of (S := S) (S' := jI S 28 (S.1 28 + 1)) (n := sN s) (q := q) (Nat.le_refl _) (fun _ _ _ _ => rfl) F x (fun _ _ _ _ _ hv => hv) m6, m7⟩
  show S.1 28 + 1 = nI (sA s + 1)
  rw [a4, nI_1]
/-- a link's slot: what it holds -/
theorem lk_slot {i j : Nat} (h : MR P mk B res q S F x s) (hi : i ≤ sN s) (hj : j < 10) (hlk : lOK (sL s i j)) : (¬ S.2.2.2 15 (10 * i + j) = 3 ∧ ∃ v : aV, sL s i j = some (.inl v)) ∨ (S.2.2.2 15 (10 * i + j) = 3 ∧ ∃ e i' : Nat, sL s i j = some (.inr (e, i', true, none)) ∧ S.2.2.2 17 (10 * i + j) = nI e ∧ S.2.2.2 18 (10 * i + j) = nI i' ∧ e < mk ∧ i' ≤ sN s) := by
  have h1 := h.2.2.2.2.1.1 i j hi hj
  generalize sL s i j = l at h1 hlk ⊢
  match l, h1, hlk with
  | some (.inl v), h1, _ => exact Or.inl ⟨by rw [h1.1]; decide, v, rfl⟩
  | some (.inr (e, i', true, o)), h1, _ =>
    obtain ⟨g1, g2, g3, g4, g5, g6⟩ := h1
    subst g2
    exact Or.inr ⟨g1, e, i', rfl, g3, g4, g5, g6⟩
  | some (.inr (e, i', false, o)), _, hlk => cases hlk
theorem r_dropA (hb : mB b) {i j : Nat} (h : MR P mk B res 1000 S (fa i j :: F) x s) (hnot : fa i j ∉ F) (hQ : ∀ S' : mm, MR P mk B res 1000 S' F none (e_un s i j none) → (∀ (y : Int32) (v : aV), VR P mk (sN s) 1000 S y v → VR P mk (sN s) 1000 S' y v) → Q (.inl none) (mw dA b w S') 0 0) : zx dA d 0 0 M_VectorLanguageModel_drop 0 (zargs 1 [.ref (b 0)]) [] (mw dA b w S) 0 0 Q := by
  have hlen := MR_len h
  have hN := h.2.2.2.2.2.2.2.2.1
  obtain ⟨a1, _⟩ := h.1
  rw [List.length_cons] at hlen
  have e25 : S.1 25 - 1 = nI F.length := by rw [a1, List.length_cons, nI_pred]
  obtain ⟨h19, h21, _, _, _, hi, hj⟩ := h.2.2.2.2.2.1.1
  have hlk := h.2.2.2.2.2.2.2.2.2.2.2.2.2.2 i j (List.mem_cons_self)
  have hp := MR_popA h
  have hcs := lk_slot h hi hj hlk
  repeat first | refine z_i rfl rfl ?_ | refine m_gt hb rfl rfl ?_
  refine m_pt hb rfl rfl ?_
  repeat first | refine z_i rfl rfl ?_ | refine m_gt hb rfl rfl ?_
  refine m_ldv hb (j := F.length) rfl rfl e25 (show F.length < 450 by omega) h19 ?_
  refine z_bt rfl rfl (by decide) ?_
  repeat first | refine z_i rfl rfl ?_ | refine m_gt hb rfl rfl ?_
  refine m_ldv hb (j := F.length) rfl rfl e25 (show F.length < 450 by omega) h19 ?_
  repeat first | refine z_i rfl rfl ?_ | refine m_gt hb rfl rfl ?_
  refine z_bf rfl rfl (fun q => q rfl) ?_
  repeat first | refine z_i rfl rfl ?_ | refine m_gt hb rfl rfl ?_
  refine m_ldv hb (j := F.length) rfl rfl e25 (show F.length < 450 by omega) h21 ?_
  refine m_ld hb (j := 10 * i + j) rfl rfl rfl (show 10 * i + j < 910 by omega) ?_
  repeat first | refine z_i rfl rfl ?_ | refine m_gt hb rfl rfl ?_
  rcases hcs with ⟨g1, v, g2⟩ | ⟨g1, e, i', g2, g3, g4, g5, g6⟩
  · refine z_bt rfl rfl g1 ?_
    refine z_retV rfl (Nat.zero_le _) (Nat.zero_le _) (hQ (drL S) ?_ (fun _ _ hv => hv))
    unfold e_un
    rw [g2]
    exact hp
  · refine z_bf rfl rfl (fun q => q g1) ?_
    repeat first | refine z_i rfl rfl ?_ | refine m_gt hb rfl rfl ?_
    refine m_ldv hb (j := F.length) rfl rfl e25 (show F.length < 450 by omega) h21 ?_
    repeat first | refine z_i rfl rfl ?_ | refine m_gt hb rfl rfl ?_
    refine m_st hb (j := 10 * i + j) rfl rfl rfl (show 10 * i + j < 910 by omega) ?_
    refine z_retV rfl (Nat.zero_le _) (Nat.zero_le _) (hQ (jA (drL S) 15 (10 * i + j) 2) ?_ (fun _ _ hv => hv))
    unfold e_un
    rw [g2]
    exact MR_slotU hp hi hj (fun k hk => ⟨pk_un hk, rfl, rfl, rfl⟩) (fun k k1 _ _ _ => va_up_ne _ _ k1) ⟨rfl, rfl, rfl⟩ ⟨pk_us, g3, g4, g5, g6⟩ (fun q => absurd q hnot)
theorem r_dropC (hb : mB b) {i : Nat} (h : MR P mk B res 1000 S (fc i :: F) x s) (hnot : fc i ∉ F) (hQ : Q (.inl none) (mw dA b w (drL S)) 0 0) : zx dA d 0 0 M_VectorLanguageModel_drop 0 (zargs 1 [.ref (b 0)]) [] (mw dA b w S) 0 0 Q := by
  have hlen := MR_len h
  obtain ⟨a1, _⟩ := h.1
  rw [List.length_cons] at hlen
  have e25 : S.1 25 - 1 = nI F.length := by rw [a1, List.length_cons, nI_pred]
  obtain ⟨h19, _⟩ := h.2.2.2.2.2.1.1
  repeat first | refine z_i rfl rfl ?_ | refine m_gt hb rfl rfl ?_
  refine m_pt hb rfl rfl ?_
  repeat first | refine z_i rfl rfl ?_ | refine m_gt hb rfl rfl ?_
  refine m_ldv hb (j := F.length) rfl rfl e25 (show F.length < 450 by omega) h19 ?_
  refine z_bt rfl rfl (by decide) ?_
  repeat first | refine z_i rfl rfl ?_ | refine m_gt hb rfl rfl ?_
  refine m_ldv hb (j := F.length) rfl rfl e25 (show F.length < 450 by omega) h19 ?_
  repeat first | refine z_i rfl rfl ?_ | refine m_gt hb rfl rfl ?_
  refine z_bt rfl rfl (show ¬ (-2 : Int32) = -1 by decide) ?_
  exact z_retV rfl (Nat.zero_le _) (Nat.zero_le _) hQ
theorem r_over_head (hb : mB b) {f : fW} (h : MR P mk B res 1000 S (.inl f :: F) x s) (hQ : zx dA d 0 0 M_VectorLanguageModel_over 20 [some (.ref (b 0)), some (.int y), none] [] (mw dA b w (drW S)) 0 0 Q) : zx dA d 0 0 M_VectorLanguageModel_over 0 (zargs 3 [.ref (b 0), .int y]) [] (mw dA b w S) 0 0 Q := by
  repeat first | refine z_i rfl rfl ?_ | refine m_gt hb rfl rfl ?_
  refine m_pt hb rfl rfl ?_
  refine z_i rfl rfl ?_
  refine z_i rfl rfl ?_
  refine m_gt hb rfl rfl ?_
  refine z_i rfl rfl ?_
  refine z_i rfl rfl ?_
  refine m_pt hb rfl rfl ?_
  exact hQ
theorem r_over_a (hb : mB b) {i j : Nat} {v : aV} (h : MR P mk B res 1000 S (fa i j :: F) x s) (hv : VR P mk (sN s) 1000 S y v) (hnot : fa i j ∉ F) (hQ : ∀ S' : mm, MR P mk B res 1000 S' F none (e_ct (e_un s i j (some v)) (some v)) → VR P mk (sN s) 1000 S' y v → zx dA d 0 0 M_VectorLanguageModel_over 20 [some (.ref (b 0)), some (.int y), none] [] (mw dA b w S') 0 0 Q) : zx dA d 0 0 M_VectorLanguageModel_over 20 [some (.ref (b 0)), some (.int y), none] [] (mw dA b w S) 0 0 Q := by
  have hlen := MR_len h
  have hN := h.2.2.2.2.2.2.2.2.1
  obtain ⟨a1, _⟩ := h.1
  rw [List.length_cons] at hlen a1
  have e25 : S.1 25 - 1 = nI F.length := by rw [a1, nI_pred]
  obtain ⟨h19, h21, _, _, _, hi, hj⟩ := h.2.2.2.2.2.1.1
  have hlk := h.2.2.2.2.2.2.2.2.2.2.2.2.2.2 i j (List.mem_cons_self)
  have hp := MR_args (MR_popA h)
  have hcs := lk_slot h hi hj hlk
  refine z_i rfl rfl ?_
  refine m_gt hb rfl rfl ?_
  refine z_bf rfl rfl (show ¬ S.1 25 ≤ 0 by rw [a1]; exact nI_nle (by omega) (by omega)) ?_
  repeat first | refine z_i rfl rfl ?_ | refine m_gt hb rfl rfl ?_
  refine m_ldv hb (j := F.length) rfl rfl e25 (show F.length < 450 by omega) h19 ?_
  refine z_bf rfl rfl (by decide) ?_
  repeat first | refine z_i rfl rfl ?_ | refine m_gt hb rfl rfl ?_
  refine m_pt hb rfl rfl ?_
  repeat first | refine z_i rfl rfl ?_ | refine m_gt hb rfl rfl ?_
  refine m_ldv hb (j := F.length) rfl rfl e25 (show F.length < 450 by omega) h19 ?_
  repeat first | refine z_i rfl rfl ?_ | refine m_gt hb rfl rfl ?_
  refine z_bt rfl rfl rfl ?_
  repeat first | refine z_i rfl rfl ?_ | refine m_gt hb rfl rfl ?_
  refine m_pt hb rfl rfl ?_
  repeat first | refine z_i rfl rfl ?_ | refine m_gt hb rfl rfl ?_
  refine m_ldv hb (j := F.length) rfl rfl e25 (show F.length < 450 by omega) h21 ?_
  refine m_ld hb (j := 10 * i + j) rfl rfl rfl (show 10 * i + j < 910 by omega) ?_
  repeat first | refine z_i rfl rfl ?_ | refine m_gt hb rfl rfl ?_
  rcases hcs with ⟨g1, u, g2⟩ | ⟨g1, e, i', g2, g3, g4, g5, g6⟩
  · refine z_bf rfl rfl g1 ?_
    refine z_j rfl ?_
    refine hQ (jI (drL S) 28 (S.1 28 + 1)) ?_ hv
    unfold e_un
    rw [g2]
    exact hp
  · refine z_bt rfl rfl g1 ?_
    repeat first | refine z_i rfl rfl ?_ | refine m_gt hb rfl rfl ?_
    refine m_ldv hb (j := F.length) rfl rfl e25 (show F.length < 450 by omega) h21 ?_
    repeat first | refine z_i rfl rfl ?_ | refine m_gt hb rfl rfl ?_
    refine m_st hb (j := 10 * i + j) rfl rfl rfl (show 10 * i + j < 910 by omega) ?_
    repeat first | refine z_i rfl rfl ?_ | refine m_gt hb rfl rfl ?_
    refine m_ldv hb (j := F.length) rfl rfl e25 (show F.length < 450 by omega) h21 ?_
    repeat first | refine z_i rfl rfl ?_ | refine m_gt hb rfl rfl ?_
    refine m_st hb (j := 10 * i + j) rfl rfl rfl (show 10 * i + j < 910 by omega) ?_
    refine z_j rfl ?_
    refine hQ (jA (jA (jI (drL S) 28 (S.1 28 + 1)) 15 (10 * i + j) 4) 16 (10 * i + j) y) ?_ hv
    unfold e_un
    rw [g2]
    exact MR_slotU hp hi hj (fun k hk => ⟨pk_un hk, pk_un hk, rfl, rfl⟩) (fun k k1 k2 _ _ => (va_up_ne _ _ k2).trans (va_up_ne _ _ k1)) ⟨rfl, rfl, rfl⟩ ⟨pk_us, by rw [show (jA (jA (jI (drL S) 28 (S.1 28 + 1)) 15 (10 * i + j) 4) 16 (10 * i + j) y).2.2.2 16 (10 * i + j) = y from pk_us]; exact hv⟩ (fun q => absurd q hnot)
theorem r_over_c (hb : mB b) {i : Nat} (h : MR P mk B res 1000 S (fc i :: F) x s) (hQ : zx dA d 0 0 M_VectorLanguageModel_over 20 [some (.ref (b 0)), some (.int y), none] [] (mw dA b w (drL S)) 0 0 Q) : zx dA d 0 0 M_VectorLanguageModel_over 20 [some (.ref (b 0)), some (.int y), none] [] (mw dA b w S) 0 0 Q := by
  have hlen := MR_len h
  obtain ⟨a1, _⟩ := h.1
  rw [List.length_cons] at hlen a1
  have e25 : S.1 25 - 1 = nI F.length := by rw [a1, nI_pred]
  obtain ⟨h19, _⟩ := h.2.2.2.2.2.1.1
  refine z_i rfl rfl ?_
  refine m_gt hb rfl rfl ?_
  refine z_bf rfl rfl (show ¬ S.1 25 ≤ 0 by rw [a1]; exact nI_nle (by omega) (by omega)) ?_
  repeat first | refine z_i rfl rfl ?_ | refine m_gt hb rfl rfl ?_
  refine m_ldv hb (j := F.length) rfl rfl e25 (show F.length < 450 by omega) h19 ?_
  refine z_bf rfl rfl (by decide) ?_
  repeat first | refine z_i rfl rfl ?_ | refine m_gt hb rfl rfl ?_
  refine m_pt hb rfl rfl ?_
  repeat first | refine z_i rfl rfl ?_ | refine m_gt hb rfl rfl ?_
  refine m_ldv hb (j := F.length) rfl rfl e25 (show F.length < 450 by omega) h19 ?_
  repeat first | refine z_i rfl rfl ?_ | refine m_gt hb rfl rfl ?_
  refine z_bf rfl rfl (show ¬ (-2 : Int32) = -1 by decide) ?_
  refine z_j rfl ?_
  exact hQ
theorem r_over_nil (hb : mB b) (h : MR P mk B res 1000 S [] x s) (hQ : Q (.inl none) (mw dA b w (jI S 30 y)) 0 0) : zx dA d 0 0 M_VectorLanguageModel_over 20 [some (.ref (b 0)), some (.int y), none] [] (mw dA b w S) 0 0 Q := by
  obtain ⟨a1, _⟩ := h.1
  refine z_i rfl rfl ?_
  refine m_gt hb rfl rfl ?_
  refine z_bt rfl rfl (show S.1 25 ≤ 0 by rw [a1]; decide) ?_
  repeat first | refine z_i rfl rfl ?_ | refine m_gt hb rfl rfl ?_
  refine z_bf rfl rfl (fun q => q (by rw [a1]; rfl)) ?_
  repeat first | refine z_i rfl rfl ?_ | refine m_gt hb rfl rfl ?_
  refine m_pt hb rfl rfl ?_
  exact z_retV rfl (Nat.zero_le _) (Nat.zero_le _) hQ
theorem MR_res {v : aV} (h : MR P mk B res 1000 S [] x s) (hv : VR P mk (sN s) 1000 S y v) : MR P mk B (some v, y) 1000 (jI S 30 y) [] none s := by
  obtain ⟨⟨a1, a2, a3, a4, a5, a6, a7, a8⟩, m2, m3, m4, m5, m6, m7⟩ := h
  exact ⟨⟨a1, a2, a3, a4, a5, a6, a7, a8⟩, m2, ⟨m3.1, m3.2.1, hv, rfl, m3.2.2.2.2⟩, m4, m5, trivial, m7⟩
/-- a value comes to a frame -/
def dvA (st : Nat) (a : Option aV) (v : aV) : Option aV := if st = 0 then some v else a
def dvB (st : Nat) (c : Option aV) (v : aV) : Option aV := if st = 1 then some v else c
def dvX (st : Nat) (v : aV) : Option aV := if st = 2 then some v else none
def dvS (S : mm) (p st : Nat) (y : Int32) : mm := jA (jA S 21 p (nI (st + 1))) (22 + st) p y
theorem MR_dv {e i st : Nat} {a c : Option aV} {v : aV} (h : MR P mk B res 1000 S (fw e i st a c :: F) none s) (hst : st ≤ 2) (hv : VR P mk (sN s) 1000 S y v) : MR P mk B res 1000 (dvS S F.length st y) (fw e i (st + 1) (dvA st a v) (dvB st c v) :: F) (dvX st v) s := by
  obtain ⟨⟨a1, a2, a3, a4, a5, a6, a7, a8⟩, m2, m3, m4, m5, ⟨⟨f1, f2, f3, f4, f5, f6, f7, f8, f9⟩, m6⟩, c1, c2, c3, c4, c5, c6, c7, c8, c9⟩ := h
  have hlt : ∀ p : Nat, p < F.length → ∀ k : Nat, 19 ≤ k → k ≤ 24 → (dvS S F.length st y).2.2.2 k p = S.2.2.2 k p := by
    intro p hp k k1 k2
    have hs' : st = 0 ∨ st = 1 ∨ st = 2 := by omega
    have hk' : k = 19 ∨ k = 20 ∨ k = 21 ∨ k = 22 ∨ k = 23 ∨ k = 24 := by omega
    rcases hs' with rfl | rfl | rfl <;> rcases hk' with rfl | rfl | rfl | rfl | rfl | rfl <;> first | rfl | exact pk_un (by omega)
  have c7' : ∀ i' : Nat, 1 ≤ i' → i' ≤ sN s → (sO s i' = false ↔ fc i' ∈ fw e i (st + 1) (dvA st a v) (dvB st c v) :: F) := fun i' h1 h2 => (c7 i' h1 h2).trans ⟨fun q => by
      rcases List.mem_cons.mp q with q | q
      · cases q
      · exact List.mem_cons_of_mem _ q, fun q => by
      rcases List.mem_cons.mp q with q | q
      · cases q
      · exact List.mem_cons_of_mem _ q⟩
  have c9' : lK s (fw e i (st + 1) (dvA st a v) (dvB st c v) :: F) := fun i' j' hh => by
      rcases List.mem_cons.mp hh with q | q
      · cases q
      · exact c9 i' j' (List.mem_cons_of_mem _ q)
  have hst' : st = 0 ∨ st = 1 ∨ st = 2 := by omega
  rcases hst' with rfl | rfl | rfl
  · exact ⟨⟨a1, a2, a3, a4, a5, a6, a7, a8⟩, m2, m3, m4, m5, ⟨⟨f1, f2, pk_us, by rw [show (dvS S F.length 0 y).2.2.2 22 F.length = y from pk_us]; exact hv, f5, f6, f7, f8, by omega⟩, FR_at (S := S) (S' := dvS S F.length 0 y) (n := sN s) (q := 1000) (Nat.le_refl _) (fun _ _ hv => hv) F none hlt m6⟩, c1, c2, c3, c4, c5, c6, c7', c8, c9'⟩
  · exact ⟨⟨a1, a2, a3, a4, a5, a6, a7, a8⟩, m2, m3, m4, m5, ⟨⟨f1, f2, pk_us, f4, by rw [show (dvS S F.length 1 y).2.2.2 23 F.length = y from pk_us]; exact hv, f6, f7, f8, by omega⟩, FR_at (S := S) (S' := dvS S F.length 1 y) (n := sN s) (q := 1000) (Nat.le_refl _) (fun _ _ hv => hv) F none hlt m6⟩, c1, c2, c3, c4, c5, c6, c7', c8, c9'⟩
  · exact ⟨⟨a1, a2, a3, a4, a5, a6, a7, a8⟩, m2, m3, m4, m5, ⟨⟨f1, f2, pk_us, f4, f5, by rw [show (dvS S F.length 2 y).2.2.2 24 F.length = y from pk_us]; exact hv, f7, f8, by omega⟩, FR_at (S := S) (S' := dvS S F.length 2 y) (n := sN s) (q := 1000) (Nat.le_refl _) (fun _ _ hv => hv) F none hlt m6⟩, c1, c2, c3, c4, c5, c6, c7', c8, c9'⟩
theorem r_over_w (hb : mB b) {e i st : Nat} {a c : Option aV} (hmk : mk ≤ 120) (h : MR P mk B res 1000 S (fw e i st a c :: F) none s) (hst : st ≤ 2) (hQ : Q (.inl none) (mw dA b w (dvS S F.length st y)) 0 0) : zx dA d 0 0 M_VectorLanguageModel_over 20 [some (.ref (b 0)), some (.int y), none] [] (mw dA b w S) 0 0 Q := by
  have hlen := MR_len h
  obtain ⟨a1, _⟩ := h.1
  rw [List.length_cons] at hlen a1
  have e25 : S.1 25 - 1 = nI F.length := by rw [a1, nI_pred]
  obtain ⟨h19, _, h21, _, _, _, he, _⟩ := h.2.2.2.2.2.1.1
  have hF : F.length < 450 := by omega
  have hs21 : ∀ z : Int32, (jA S 21 F.length z).2.2.2 21 F.length = z := fun z => pk_us
  refine z_i rfl rfl ?_
  refine m_gt hb rfl rfl ?_
  refine z_bf rfl rfl (show ¬ S.1 25 ≤ 0 by rw [a1]; exact nI_nle (by omega) (by omega)) ?_
  repeat first | refine z_i rfl rfl ?_ | refine m_gt hb rfl rfl ?_
  refine m_ldv hb (j := F.length) rfl rfl e25 hF h19 ?_
  refine z_bt rfl rfl (nI_pos' (by omega)) ?_
  repeat first | refine z_i rfl rfl ?_ | refine m_gt hb rfl rfl ?_
  refine z_bt rfl rfl (show ¬ S.1 25 = 0 by rw [a1]; exact nI_ne0 (by omega) (by omega)) ?_
  repeat first | refine z_i rfl rfl ?_ | refine m_gt hb rfl rfl ?_
  refine m_ldv hb (j := F.length) rfl rfl e25 hF h21 ?_
  repeat first | refine z_i rfl rfl ?_ | refine m_gt hb rfl rfl ?_
  refine m_st hb (j := F.length) rfl rfl e25 hF ?_
  dsimp only
  rw [nI_1]
  have hst' : st = 0 ∨ st = 1 ∨ st = 2 := by omega
  rcases hst' with rfl | rfl | rfl
  · repeat first | refine z_i rfl rfl ?_ | refine m_gt hb rfl rfl ?_
    refine m_ldv hb (j := F.length) rfl rfl e25 hF (hs21 _) ?_
    repeat first | refine z_i rfl rfl ?_ | refine m_gt hb rfl rfl ?_
    refine z_bf rfl rfl (fun q => q rfl) ?_
    repeat first | refine z_i rfl rfl ?_ | refine m_gt hb rfl rfl ?_
    refine m_st hb (j := F.length) rfl rfl e25 hF ?_
    repeat first | refine z_i rfl rfl ?_ | refine m_gt hb rfl rfl ?_
    refine m_ldv hb (j := F.length) rfl rfl e25 hF (hs21 _) ?_
    repeat first | refine z_i rfl rfl ?_ | refine m_gt hb rfl rfl ?_
    refine z_bt rfl rfl (show ¬ nI 1 = nI 2 by decide) ?_
    repeat first | refine z_i rfl rfl ?_ | refine m_gt hb rfl rfl ?_
    refine m_ldv hb (j := F.length) rfl rfl e25 hF (hs21 _) ?_
    repeat first | refine z_i rfl rfl ?_ | refine m_gt hb rfl rfl ?_
    refine z_bt rfl rfl (show ¬ nI 1 = nI 3 by decide) ?_
    exact z_retV rfl (Nat.zero_le _) (Nat.zero_le _) hQ
  · repeat first | refine z_i rfl rfl ?_ | refine m_gt hb rfl rfl ?_
    refine m_ldv hb (j := F.length) rfl rfl e25 hF (hs21 _) ?_
    repeat first | refine z_i rfl rfl ?_ | refine m_gt hb rfl rfl ?_
    refine z_bt rfl rfl (show ¬ nI 2 = nI 1 by decide) ?_
    repeat first | refine z_i rfl rfl ?_ | refine m_gt hb rfl rfl ?_
    refine m_ldv hb (j := F.length) rfl rfl e25 hF (hs21 _) ?_
    repeat first | refine z_i rfl rfl ?_ | refine m_gt hb rfl rfl ?_
    refine z_bf rfl rfl (fun q => q rfl) ?_
    repeat first | refine z_i rfl rfl ?_ | refine m_gt hb rfl rfl ?_
    refine m_st hb (j := F.length) rfl rfl e25 hF ?_
    repeat first | refine z_i rfl rfl ?_ | refine m_gt hb rfl rfl ?_
    refine m_ldv hb (j := F.length) rfl rfl e25 hF (hs21 _) ?_
    repeat first | refine z_i rfl rfl ?_ | refine m_gt hb rfl rfl ?_
    refine z_bt rfl rfl (show ¬ nI 2 = nI 3 by decide) ?_
    exact z_retV rfl (Nat.zero_le _) (Nat.zero_le _) hQ
  · repeat first | refine z_i rfl rfl ?_ | refine m_gt hb rfl rfl ?_
    refine m_ldv hb (j := F.length) rfl rfl e25 hF (hs21 _) ?_
    repeat first | refine z_i rfl rfl ?_ | refine m_gt hb rfl rfl ?_
    refine z_bt rfl rfl (show ¬ nI 3 = nI 1 by decide) ?_
    repeat first | refine z_i rfl rfl ?_ | refine m_gt hb rfl rfl ?_
    refine m_ldv hb (j := F.length) rfl rfl e25 hF (hs21 _) ?_
    repeat first | refine z_i rfl rfl ?_ | refine m_gt hb rfl rfl ?_
    refine z_bt rfl rfl (show ¬ nI 3 = nI 2 by decide) ?_
    repeat first | refine z_i rfl rfl ?_ | refine m_gt hb rfl rfl ?_
    refine m_ldv hb (j := F.length) rfl rfl e25 hF (hs21 _) ?_
    repeat first | refine z_i rfl rfl ?_ | refine m_gt hb rfl rfl ?_
    refine z_bf rfl rfl (fun q => q rfl) ?_
    repeat first | refine z_i rfl rfl ?_ | refine m_gt hb rfl rfl ?_
    refine m_st hb (j := F.length) rfl rfl e25 hF ?_
    exact z_retV rfl (Nat.zero_le _) (Nat.zero_le _) hQ
end FN
