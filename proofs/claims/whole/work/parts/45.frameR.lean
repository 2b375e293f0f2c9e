/-! the reference's frames: pile, begin, drop, over -/
section FM
variable {dA : Nat → ClassId} {b : Nat → Nat} {w : ww_W} {S S' : mm} {d : Nat} {Q : zQ} {P : aP} {mk B n n' q q' : Nat} {res : rP} {F : List fF} {x : Option aV} {s : aS} {y : Int32}
theorem FR1_at {p : Nat} {f : fF} {x' : Option aV} (hn : n ≤ n') (hA : ∀ k : Nat, 19 ≤ k → k ≤ 24 → S'.2.2.2 k p = S.2.2.2 k p) (hV : ∀ (y : Int32) (v : aV), VR P mk n q S y v → VR P mk n' q' S' y v) (h : FR1 P mk n q S p x' f) : FR1 P mk n' q' S' p x' f := by
  have e19 := hA 19 (by decide) (by decide)
  have e20 := hA 20 (by decide) (by decide)
  have e21 := hA 21 (by decide) (by decide)
  have e22 := hA 22 (by decide) (by decide)
  have e23 := hA 23 (by decide) (by decide)
  have e24 := hA 24 (by decide) (by decide)
  match f, h with
  | .inl (e, i, st, a, c), h =>
    obtain ⟨h1, h2, h3, h4, h5, h6, h7, h8, h9⟩ := h
    exact ⟨by rw [e19]; exact h1, by rw [e20]; exact h2, by rw [e21]; exact h3, by rw [e22]; exact VO_of (hV _) h4, by rw [e23]; exact VO_of (hV _) h5, by rw [e24]; exact VO_of (hV _) h6, h7, Nat.le_trans h8 hn, h9⟩
  | .inr (.inl (i, j)), h =>
    obtain ⟨h1, h2, h3, h4, h5, h6, h7⟩ := h
    exact ⟨by rw [e19]; exact h1, by rw [e21]; exact h2, by rw [e22]; exact h3, by rw [e23]; exact h4, by rw [e24]; exact h5, Nat.le_trans h6 hn, h7⟩
  | .inr (.inr i), h =>
    obtain ⟨h1, h2, h3, h4, h5, h6, h7⟩ := h
    exact ⟨by rw [e19]; exact h1, by rw [e20]; exact h2, by rw [e22]; exact h3, by rw [e23]; exact h4, by rw [e24]; exact h5, h6, Nat.le_trans h7 hn⟩
theorem FR_at (hn : n ≤ n') (hV : ∀ (y : Int32) (v : aV), VR P mk n q S y v → VR P mk n' q' S' y v) : ∀ (F : List fF) (x : Option aV), (∀ p : Nat, p < F.length → ∀ k : Nat, 19 ≤ k → k ≤ 24 → S'.2.2.2 k p = S.2.2.2 k p) → FR P mk n q S F x → FR P mk n' q' S' F x
  | [], _, _, _ => trivial
  | f :: F, x, hA, h => ⟨FR1_at hn (hA F.length (by simp)) hV h.1, FR_at hn hV F none (fun p hp => hA p (by simp; omega)) h.2⟩
/-- the state with a frame more -/
def pl0 (S : mm) (p : Nat) (a i h : Int32) : mm := jA (jA (jA (jA (jA (jA S 19 p a) 20 p i) 21 p h) 22 p (-1)) 23 p (-1)) 24 p (-1)
def plL (S : mm) (p : Nat) (a i h : Int32) : mm := jI (pl0 S p a i h) 25 (S.1 25 + 1)
def plW (S : mm) (p : Nat) (a i h : Int32) : mm := jI (plL S p a i h) 26 (S.1 26 + 1)
theorem pl0_lt {p p' k : Nat} {a i h : Int32} (hp : p' ≠ p) (h1 : 19 ≤ k) (h2 : k ≤ 24) : (pl0 S p a i h).2.2.2 k p' = S.2.2.2 k p' := by
  have : k = 19 ∨ k = 20 ∨ k = 21 ∨ k = 22 ∨ k = 23 ∨ k = 24 := by omega
  rcases this with rfl | rfl | rfl | rfl | rfl | rfl <;> exact pk_un hp
theorem r_pileW (hb : mB b) {p : Nat} {a i h : Int32} (hp : S.1 25 = nI p) (hp2 : p < 450) (ha : ¬ a < 0) (hQ : Q (.inl none) (mw dA b w (plW S p a i h)) 0 0) : zx dA d 0 0 M_VectorLanguageModel_pile 0 (zargs 4 [.ref (b 0), .int a, .int i, .int h]) [] (mw dA b w S) 0 0 Q := by
  repeat first | refine z_i rfl rfl ?_ | refine m_gt hb rfl rfl ?_
  refine m_st hb (j := p) rfl rfl hp hp2 ?_
  repeat first | refine z_i rfl rfl ?_ | refine m_gt hb rfl rfl ?_
  refine m_st hb (j := p) rfl rfl hp hp2 ?_
  repeat first | refine z_i rfl rfl ?_ | refine m_gt hb rfl rfl ?_
  refine m_st hb (j := p) rfl rfl hp hp2 ?_
  repeat first | refine z_i rfl rfl ?_ | refine m_gt hb rfl rfl ?_
  refine m_st hb (j := p) rfl rfl hp hp2 ?_
  repeat first | refine z_i rfl rfl ?_ | refine m_gt hb rfl rfl ?_
  refine m_st hb (j := p) rfl rfl hp hp2 ?_
  repeat first | refine z_i rfl rfl ?_ | refine m_gt hb rfl rfl ?_
  refine m_st hb (j := p) rfl rfl hp hp2 ?_
  repeat first | refine z_i rfl rfl ?_ | refine m_gt hb rfl rfl ?_
  refine m_pt hb rfl rfl ?_
  repeat first | refine z_i rfl rfl ?_ | refine m_gt hb rfl rfl ?_
  refine z_bf rfl rfl ha ?_
  repeat first | refine z_i rfl rfl ?_ | refine m_gt hb rfl rfl ?_
  refine m_pt hb rfl rfl ?_
  exact z_retV rfl (Nat.zero_le _) (Nat.zero_le _) hQ
theorem r_pileL (hb : mB b) {p : Nat} {a i h : Int32} (hp : S.1 25 = nI p) (hp2 : p < 450) (ha : a < 0) (hQ : Q (.inl none) (mw dA b w (plL S p a i h)) 0 0) : zx dA d 0 0 M_VectorLanguageModel_pile 0 (zargs 4 [.ref (b 0), .int a, .int i, .int h]) [] (mw dA b w S) 0 0 Q := by
  repeat first | refine z_i rfl rfl ?_ | refine m_gt hb rfl rfl ?_
  refine m_st hb (j := p) rfl rfl hp hp2 ?_
  repeat first | refine z_i rfl rfl ?_ | refine m_gt hb rfl rfl ?_
  refine m_st hb (j := p) rfl rfl hp hp2 ?_
  repeat first | refine z_i rfl rfl ?_ | refine m_gt hb rfl rfl ?_
  refine m_st hb (j := p) rfl rfl hp hp2 ?_
  repeat first | refine z_i rfl rfl ?_ | refine m_gt hb rfl rfl ?_
  refine m_st hb (j := p) rfl rfl hp hp2 ?_
  repeat first | refine z_i rfl rfl ?_ | refine m_gt hb rfl rfl ?_
  refine m_st hb (j := p) rfl rfl hp hp2 ?_
  repeat first | refine z_i rfl rfl ?_ | refine m_gt hb rfl rfl ?_
  refine m_st hb (j := p) rfl rfl hp hp2 ?_
  repeat first | refine z_i rfl rfl ?_ | refine m_gt hb rfl rfl ?_
  refine m_pt hb rfl rfl ?_
  repeat first | refine z_i rfl rfl ?_ | refine m_gt hb rfl rfl ?_
  refine z_bt rfl rfl ha ?_
  exact z_retV rfl (Nat.zero_le _) (Nat.zero_le _) hQ
theorem MR_pushW {e i : Nat} (h : MR P mk B res 1000 S F none s) (hw : wk F < 40) (ht : sT s < 400) (he : e < mk) (hi : i ≤ sN s) : MR P mk B res 1000 (plW (jI S 27 (S.1 27 + 1)) F.length (nI e) (nI i) 0) (fw e i 0 none none :: F) none (uT s (sT s + 1)) := by
  obtain ⟨⟨a1, a2, a3, a4, a5, a6, a7, a8⟩, m2, m3, m4, m5, m6, c1, c2, c3, c4, c5, c6, c7, c8, c9⟩ := h
  refine ⟨⟨?_, ?_, ?_, a4, a5, a6, a7, a8⟩, m2, m3, m4, m5, ⟨⟨pk_us, pk_us, pk_us, pk_us, pk_us, pk_us, he, hi, by omega⟩, ?_⟩, ⟨?_, c1⟩, ?_, c3, ?_, ?_, c6, fun i h1 h2 => ?_, c8, fun i j hh => ?_⟩
  · show S.1 25 + 1 = nI (F.length + 1)
    rw [a1, nI_1]
  · show S.1 26 + 1 = nI (wk F + 1)
    rw [a2, nI_1]
  · show S.1 27 + 1 = nI (sT s + 1)
    rw [a3, nI_1]
  · exact FR_at (S := S) (S' := plW (jI S 27 (S.1 27 + 1)) F.length (nI e) (nI i) 0) (n := sN s) (q := 1000) (Nat.le_refl _) (fun _ _ hv => hv) F none (fun p hp k k1 k2 => pl0_lt (p := F.length) (a := nI e) (i := nI i) (h := 0) (S := jI S 27 (S.1 27 + 1)) (by omega) k1 k2) m6
  · have := bF_len F c1
    show F.length + 1 ≤ 2 * (wk F + 1) + 1
    omega
  · show wk F + 1 ≤ 40
    omega
  · show sT s + 1 ≤ 400
    omega
  · show sF s + 400 ≤ B + (sT s + 1) ∧ _
    omega
  · refine (c7 i h1 h2).trans ⟨fun q => List.mem_cons_of_mem _ q, fun q => ?_⟩
    rcases List.mem_cons.mp q with q | q
    · cases q
    · exact q
  · rcases List.mem_cons.mp hh with q | q
    · cases q
    · exact c9 i j q
theorem r_begin (hb : mB b) (hd : 1 ≤ d) {e i : Nat} (hmk : mk ≤ 120) (h : MR P mk B res 1000 S F none s) (he : e < mk) (hi : i ≤ sN s)
    (hQ1 : 400 ≤ sT s ∨ wk F = 40 → Q (.inl none) (mw dA b w (jI S 29 9)) 0 0)
    (hQ2 : sT s < 400 → wk F < 40 → Q (.inl none) (mw dA b w (plW (jI S 27 (S.1 27 + 1)) F.length (nI e) (nI i) 0)) 0 0) : zx dA d 0 0 M_VectorLanguageModel_begin 0 (zargs 3 [.ref (b 0), .int (nI e), .int (nI i)]) [] (mw dA b w S) 0 0 Q := by
  have hlen := MR_len h
  obtain ⟨a1, a2, a3, _⟩ := h.1
  have c2 := h.2.2.2.2.2.2.2.1
  have c4 := h.2.2.2.2.2.2.2.2.2.1
  have hbad : 400 ≤ sT s ∨ wk F = 40 → zx dA d 0 0 M_VectorLanguageModel_begin 19 (zargs 3 [.ref (b 0), .int (nI e), .int (nI i)]) [] (mw dA b w S) 0 0 Q := by
    intro hh
    repeat first | refine z_i rfl rfl ?_ | refine m_gt hb rfl rfl ?_
    refine m_pt hb rfl rfl ?_
    exact z_retV rfl (Nat.zero_le _) (Nat.zero_le _) (hQ1 hh)
  repeat first | refine z_i rfl rfl ?_ | refine m_gt hb rfl rfl ?_
  refine z_b rfl rfl (fun g1 => hbad (Or.inl ?_)) (fun g1 => ?_)
  · replace g1 : S.1 27 = nI 400 := g1
    rw [a3, nI_eq (by omega) (by omega)] at g1
    omega
  replace g1 : ¬ S.1 27 = nI 400 := g1
  rw [a3, nI_eq (by omega) (by omega)] at g1
  repeat first | refine z_i rfl rfl ?_ | refine m_gt hb rfl rfl ?_
  refine z_b rfl rfl (fun g2 => ?_) (fun g2 => hbad (Or.inr ?_))
  · replace g2 : ¬ S.1 26 = nI 40 := g2
    rw [a2, nI_eq (by omega) (by omega)] at g2
    repeat first | refine z_i rfl rfl ?_ | refine m_gt hb rfl rfl ?_
    refine m_pt hb rfl rfl ?_
    repeat first | refine z_i rfl rfl ?_ | refine m_gt hb rfl rfl ?_
    refine z_cVk [.int (nI e), .int (nI i), .int 0] [] 0 0 0 rfl (m_obj hb) rfl rfl (Nat.le_of_ble_eq_true rfl) (Nat.le_of_ble_eq_true rfl) (by omega) (by omega) (by omega) (r_pileW (S := jI S 27 (S.1 27 + 1)) hb a1 (by omega) (nI_pos (by omega)) ⟨_, rfl, ?_⟩)
    exact z_retV rfl (Nat.zero_le _) (Nat.zero_le _) (hQ2 (by omega) (by omega))
  · replace g2 : S.1 26 = nI 40 := Classical.not_not.mp g2
    rw [a2, nI_eq (by omega) (by omega)] at g2
    exact g2
/-- the state with a frame less -/
def drW (S : mm) : mm := jI (jI S 25 (S.1 25 - 1)) 26 (S.1 26 - 1)
theorem MR_dropW {f : fW} (h : MR P mk B res 1000 S (.inl f :: F) x s) : MR P mk B res 1000 (drW S) F none s := by
  obtain ⟨⟨a1, a2, a3, a4, a5, a6, a7, a8⟩, m2, m3, m4, m5, m6, c1, c2, c3, c4, c5, c6, c7, c8, c9⟩ := h
  refine ⟨⟨?_, ?_, a3, a4, a5, a6, a7, a8⟩, m2, m3, m4, m5, FR_at (S := S) (S' := drW S) (n := sN s) (q := 1000) (Nat.le_refl _) (fun _ _ hv => hv) F none (fun _ _ _ _ _ => rfl) m6.2, c1.2, ?_, c3, c4, c5, c6, fun i h1 h2 => ?_, c8, fun i j hh => c9 i j (List.mem_cons_of_mem _ hh)⟩
  · show S.1 25 - 1 = nI F.length
    rw [a1, List.length_cons, nI_pred]
  · show S.1 26 - 1 = nI (wk F)
    rw [a2, show wk (.inl f :: F) = wk F + 1 from rfl, nI_pred]
  · have : wk F + 1 ≤ 40 := c2
    omega
  · refine (c7 i h1 h2).trans ⟨fun q => ?_, fun q => List.mem_cons_of_mem _ q⟩
    rcases List.mem_cons.mp q with q | q
    · cases q
    · exact q
theorem r_dropW (hb : mB b) {f : fW} (hmk : mk ≤ 120) (h : MR P mk B res 1000 S (.inl f :: F) x s) (hQ : Q (.inl none) (mw dA b w (drW S)) 0 0) : zx dA d 0 0 M_VectorLanguageModel_drop 0 (zargs 1 [.ref (b 0)]) [] (mw dA b w S) 0 0 Q := by
  have hlen := MR_len h
  obtain ⟨a1, _⟩ := h.1
  rw [List.length_cons] at hlen
  have e25 : S.1 25 - 1 = nI F.length := by rw [a1, List.length_cons, nI_pred]
  obtain ⟨e, i, st, a, c⟩ := f
  obtain ⟨h19, _, _, _, _, _, he, _⟩ := h.2.2.2.2.2.1.1
  repeat first | refine z_i rfl rfl ?_ | refine m_gt hb rfl rfl ?_
  refine m_pt hb rfl rfl ?_
  repeat first | refine z_i rfl rfl ?_ | refine m_gt hb rfl rfl ?_
  refine m_ldv hb (j := F.length) rfl rfl e25 (show F.length < 450 by omega) h19 ?_
  refine z_bf rfl rfl (nI_pos (by omega)) ?_
  repeat first | refine z_i rfl rfl ?_ | refine m_gt hb rfl rfl ?_
  refine m_pt hb rfl rfl ?_
  repeat first | refine z_i rfl rfl ?_ | refine m_gt hb rfl rfl ?_
  refine m_ldv hb (j := F.length) rfl rfl e25 (show F.length < 450 by omega) h19 ?_
  repeat first | refine z_i rfl rfl ?_ | refine m_gt hb rfl rfl ?_
  refine z_bt rfl rfl (nI_n1 (by omega)) ?_
  exact z_retV rfl (Nat.zero_le _) (Nat.zero_le _) hQ
theorem SL_at {k : Nat} {l : aL} (hn : n ≤ n') (e15 : S'.2.2.2 15 k = S.2.2.2 15 k) (e16 : S'.2.2.2 16 k = S.2.2.2 16 k) (e17 : S'.2.2.2 17 k = S.2.2.2 17 k) (e18 : S'.2.2.2 18 k = S.2.2.2 18 k) (hV : ∀ (y : Int32) (v : aV), VR P mk n q S y v → VR P mk n' q' S' y v) (h : SL P mk n q S k l) : SL P mk n' q' S' k l := by
  match l, h with
  | none, h => show S'.2.2.2 15 k = 0; rw [e15]; exact h
  | some (.inl v), h => exact ⟨by rw [e15]; exact h.1, by rw [e16]; exact hV _ v h.2⟩
  | some (.inr (e, i, true, o)), h => exact ⟨by rw [e15]; exact h.1, h.2.1, by rw [e17]; exact h.2.2.1, by rw [e18]; exact h.2.2.2.1, h.2.2.2.2.1, Nat.le_trans h.2.2.2.2.2 hn⟩
  | some (.inr (e, i, false, none)), h => exact ⟨by rw [e15]; exact h.1, by rw [e17]; exact h.2.1, by rw [e18]; exact h.2.2.1, h.2.2.2.1, Nat.le_trans h.2.2.2.2 hn⟩
  | some (.inr (e, i, false, some v)), h => exact ⟨by rw [e15]; exact h.1, by rw [e16]; exact hV _ v h.2⟩
theorem sL_uL {i j i' j' : Nat} {l : aL} : sL (uL s i j l) i' j' = if i' = i ∧ j' = j then l else sL s i' j' := by
  unfold sL uL
  by_cases hi : i' = i
  · subst hi
    simp only [va_up_self, true_and]
    by_cases hj : j' = j
    · subst hj
      simp [va_up_self]
    · rw [if_neg hj, va_up_ne _ _ hj]
  · rw [if_neg (fun q => hi q.1)]
    simp only [va_up_ne _ _ hi]
theorem sC_uL {i j i' : Nat} {l : aL} : sC (uL s i j l) i' = sC s i' := by
  unfold sC uL
  by_cases hi : i' = i
  · subst hi
    simp only [va_up_self]
  · simp only [va_up_ne _ _ hi]
theorem sG_uL {i j i' : Nat} {l : aL} : sG (uL s i j l) i' = sG s i' := by
  unfold sG uL
  by_cases hi : i' = i
  · subst hi
    simp only [va_up_self]
  · simp only [va_up_ne _ _ hi]
theorem sO_uL {i j i' : Nat} {l : aL} : sO (uL s i j l) i' = sO s i' := by
  unfold sO uL
  by_cases hi : i' = i
  · subst hi
    simp only [va_up_self]
  · simp only [va_up_ne _ _ hi]
/-- a slot changes, and nothing else -/
theorem MR_slotU {i j : Nat} {l : aL} (h : MR P mk B res q S F x s) (hi : i ≤ sN s) (hj : j < 10) (hk : ∀ k : Nat, k ≠ 10 * i + j → S'.2.2.2 15 k = S.2.2.2 15 k ∧ S'.2.2.2 16 k = S.2.2.2 16 k ∧ S'.2.2.2 17 k = S.2.2.2 17 k ∧ S'.2.2.2 18 k = S.2.2.2 18 k) (hA : ∀ k : Nat, k ≠ 15 → k ≠ 16 → k ≠ 17 → k ≠ 18 → S'.2.2.2 k = S.2.2.2 k) (hI : S'.1 = S.1 ∧ S'.2.1 = S.2.1 ∧ S'.2.2.1 = S.2.2.1) (hl : SL P mk (sN s) q S' (10 * i + j) l) (hlk : fa i j ∈ F → lOK l) : MR P mk B res q S' F x (uL s i j l) := by
  have hV : ∀ (y : Int32) (v : aV), VR P mk (sN s) q S y v → VR P mk (sN s) q S' y v := by
    intro y v hv
    obtain ⟨z, h1, h2, h3, h4, h5⟩ := hv
    exact ⟨z, h1, h2, h3, by rw [hA 8 (by decide) (by decide) (by decide) (by decide)]; exact h4, VC_mem (by rw [hA 7 (by decide) (by decide) (by decide) (by decide)]) (fun _ _ => by rw [hI.2.2]) h5⟩
  obtain ⟨⟨a1, a2, a3, a4, a5, a6, a7, a8⟩, m2, m3, m4, m5, m6, c1, c2, c3, c4, c5, c6, c7, c8, c9⟩ := h
  refine ⟨⟨by rw [hI.1]; exact a1, by rw [hI.1]; exact a2, by rw [hI.1]; exact a3, by rw [hI.1]; exact a4, by rw [hI.1]; exact a5, by rw [hI.1]; exact a6, by rw [hI.1]; exact a7, by rw [hI.2.1]; exact a8⟩, ?_, ⟨by rw [hI.1]; exact m3.1, hV _ _ m3.2.1, by rw [hI.1]; exact ⟨VO_of (hV _) m3.2.2.1, m3.2.2.2⟩⟩, ?_, ⟨fun i' j' hi' hj' => ?_, fun k k1 k2 => ?_⟩, ?_, c1, c2, c3, c4, c5, c6, fun i' h1 h2 => ?_, ?_, fun i' j' hh => ?_⟩
  · intro e he
    rw [hA 1 (by decide) (by decide) (by decide) (by decide), hA 2 (by decide) (by decide) (by decide) (by decide), hA 3 (by decide) (by decide) (by decide) (by decide), hA 4 (by decide) (by decide) (by decide) (by decide)]
    exact m2 e he
  · intro i' hi'
    have := m4 i' hi'
    rw [sC_uL, sG_uL, hA 11 (by decide) (by decide) (by decide) (by decide), hA 12 (by decide) (by decide) (by decide) (by decide), hA 13 (by decide) (by decide) (by decide) (by decide)]
    exact this
  · rw [sL_uL]
    by_cases hij : i' = i ∧ j' = j
    · rw [if_pos hij, hij.1, hij.2]
      exact hl
    · rw [if_neg hij]
      obtain ⟨k1, k2, k3, k4⟩ := hk (10 * i' + j') (by omega)
      exact SL_at (S := S) (Nat.le_refl _) k1 k2 k3 k4 hV (m5.1 i' j' hi' hj')
  · have k1' : 10 * (sN s + 1) ≤ k := k1
    rw [(hk k (by omega)).1]
    exact m5.2 k k1 k2
  · exact FR_at (S := S) (Nat.le_refl _) hV F x (fun p hp k k1 k2 => by rw [hA k (by omega) (by omega) (by omega) (by omega)]) m6
  · rw [sO_uL]
    exact c7 i' h1 h2
  · rw [sO_uL]
    exact c8
  · rw [sL_uL]
    by_cases hij : i' = i ∧ j' = j
    · rw [if_pos hij]
      rw [hij.1, hij.2] at hh
      exact hlk hh
    · rw [if_neg hij]
      exact c9 i' j' hh
end FM
