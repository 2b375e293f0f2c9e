/-! what comes after: the reference's run, unwind, leave; place and give -/
section CX
variable (dA : Nat → ClassId) (b : Nat → Nat) (w : ww_W) (CC GG : mm → Prop) (QU : zQ)
/-- an end that comes to CC -/
def qC (Q : zQ) : Prop := ∀ S : mm, CC S → Q (.inl none) (mw dA b w S) 0 0
def UU (S : mm) : Prop := ∀ o1 o2 o3 : Option Value, zx dA 6 0 0 M_VectorLanguageModel_unwind 0 [some (.ref (b 0)), o1, o2, o3] [] (mw dA b w S) 0 0 QU
def AD (S : mm) : Prop := ∀ Q : zQ, qC dA b w CC Q → zx dA 6 0 0 M_VectorLanguageModel_advance 0 (zargs 5 [.ref (b 0)]) [] (mw dA b w S) 0 0 Q
def OL (y : Int32) (S : mm) : Prop := ∀ (d : Nat) (Q : zQ), qC dA b w CC Q → zx dA d 0 0 M_VectorLanguageModel_over 20 [some (.ref (b 0)), some (.int y), none] [] (mw dA b w S) 0 0 Q
def LV (i : Nat) (y : Int32) (S : mm) : Prop := ∀ (d : Nat) (Q : zQ) (o4 : Option Value), 1 ≤ d → qC dA b w CC Q → zx dA d 0 0 M_VectorLanguageModel_leave 70 [some (.ref (b 0)), some (.int (nI i)), some (.int y), some (.int (if i = 0 then 0 else 1)), o4] [] (mw dA b w S) 0 0 Q
def Ctx : Prop := (∀ S : mm, (S.1 29 = 0 → GG S) → (¬ S.1 29 = 0 → UU dA b w QU S) → CC S) ∧ (∀ S : mm, ¬ S.1 25 ≤ 0 → AD dA b w CC S → GG S) ∧ ∀ S : mm, GG S → QU (.inl none) (mw dA b w S) 0 0
variable (P : aP) (mk B : Nat) (res : rP)
/-- all states that stand for the end r over the frames F go on well -/
def KK (F : List fF) (r : aR) : Prop :=
  (∀ (v : aV) (s : aS), r = (some v, s) → sX s = 0 → ∀ (S : mm) (y : Int32), MR P mk B res 1000 S F none s → VR P mk (sN s) 1000 S y v → OL dA b w CC y S)
  ∧ (∀ s : aS, r = (none, s) → ¬ sX s = 0 → ∀ S : mm, MR P mk B res 1000 S F none s → UU dA b w QU S)
  ∧ (∀ (s : aS) (i : Nat) (v : aV), r = (none, s) → sX s = 0 → sR s = some (i, v) → ∀ (S : mm) (y : Int32), MR P mk B res 1000 S F none (uR s none) → VR P mk (sN s) 1000 S y v → i ≤ sN s → sO s i = false → LV dA b w CC i y S)
end CX
section CY
variable {dA : Nat → ClassId} {b : Nat → Nat} {w : ww_W} {CC GG : mm → Prop} {QU : zQ} {P : aP} {mk B n q : Nat} {res : rP} {S S' : mm} {F : List fF} {x : Option aV} {s : aS} {y : Int32} {d : Nat} {Q : zQ}
theorem U_step (hb : mB b) {f : fF} (hmk : mk ≤ 120) (h : MR P mk B res 1000 S (f :: F) x s) (hX : ¬ sX s = 0) (hf : ∀ g : fW, f = .inl g → ¬ kd P g.1 = 24 ∨ ¬ g.2.2.1 = 0 ∨ sX s = 9) (hQ : zx dA 5 0 0 M_VectorLanguageModel_drop 0 (zargs 1 [.ref (b 0)]) [] (mw dA b w S) 0 0 (fun r w' k' n' => ∃ S' : mm, r = .inl none ∧ k' = 0 ∧ n' = 0 ∧ w' = mw dA b w S' ∧ UU dA b w QU S')) : UU dA b w QU S := by
  intro o1 o2 o3
  have hlen := MR_len h
  obtain ⟨a1, _, _, _, a5, _⟩ := h.1
  rw [List.length_cons] at hlen a1
  have e25 : S.1 25 - 1 = nI F.length := by rw [a1, nI_pred]
  have hgo : zx dA 6 0 0 M_VectorLanguageModel_unwind 68 [some (.ref (b 0)), some (.int (S.1 25 - 1)), o2, o3] [] (mw dA b w S) 0 0 QU := by
    refine z_i rfl rfl ?_
    refine z_i rfl rfl ?_
    refine z_i rfl rfl ?_
    refine z_bf rfl rfl (fun q => q rfl) ?_
    refine z_i rfl rfl ?_
    refine z_cV [] [] 5 0 0 _ rfl (m_obj hb) rfl rfl (Nat.le_of_ble_eq_true rfl) (Nat.le_of_ble_eq_true rfl) (by omega) (by omega) (by omega) hQ (fun _ _ _ _ q => by obtain ⟨_, q, _⟩ := q; cases q) (fun v w' k' n' q => ?_)
    obtain ⟨S', q1, rfl, rfl, rfl, q5⟩ := q
    cases q1
    refine z_j rfl ?_
    exact q5 _ _ _
  refine z_i rfl rfl ?_
  refine m_gt hb rfl rfl ?_
  refine z_bf rfl rfl (show ¬ S.1 29 = 0 by rw [a5]; exact hX) ?_
  repeat first | refine z_i rfl rfl ?_ | refine m_gt hb rfl rfl ?_
  refine z_bf rfl rfl (show ¬ S.1 25 ≤ 0 by rw [a1]; exact nI_nle (by omega) (by omega)) ?_
  repeat first | refine z_i rfl rfl ?_ | refine m_gt hb rfl rfl ?_
  cases f with
  | inr l =>
    have h19 : S.2.2.2 19 F.length = -1 ∨ S.2.2.2 19 F.length = -2 := by
      cases l with
      | inl l => exact Or.inl h.2.2.2.2.2.1.1.1
      | inr l => exact Or.inr h.2.2.2.2.2.1.1.1
    refine m_ld hb (j := F.length) rfl rfl e25 (show F.length < 450 by omega) ?_
    refine z_bt rfl rfl (by rcases h19 with q | q <;> rw [q] <;> decide) ?_
    exact hgo
  | inl g =>
    obtain ⟨e, i, st, a, c⟩ := g
    obtain ⟨h19, _, h21, _, _, _, he, _, h9⟩ := h.2.2.2.2.2.1.1
    have hkd := (h.2.1 e he).1
    refine m_ldv hb (j := F.length) rfl rfl e25 (show F.length < 450 by omega) h19 ?_
    refine z_bf rfl rfl (nI_pos (by omega)) ?_
    repeat first | refine z_i rfl rfl ?_ | refine m_gt hb rfl rfl ?_
    refine m_ldv hb (j := F.length) rfl rfl e25 (show F.length < 450 by omega) h19 ?_
    refine m_ldv hb (j := e) rfl rfl rfl (show e < 120 by omega) hkd ?_
    repeat first | refine z_i rfl rfl ?_ | refine m_gt hb rfl rfl ?_
    refine z_b rfl rfl (fun _ => hgo) (fun g1 => ?_)
    repeat first | refine z_i rfl rfl ?_ | refine m_gt hb rfl rfl ?_
    refine m_ldv hb (j := F.length) rfl rfl e25 (show F.length < 450 by omega) h21 ?_
    refine z_b rfl rfl (fun _ => hgo) (fun g2 => ?_)
    repeat first | refine z_i rfl rfl ?_ | refine m_gt hb rfl rfl ?_
    refine z_bt rfl rfl ?_ hgo
    show S.1 29 = 9
    rw [a5]
    rcases hf _ rfl with q | q | q
    · exact absurd (Classical.not_not.mp g1) q
    · exact absurd ((nI_z (by omega)).mp (Classical.not_not.mp g2)) q
    · exact q
theorem U_w (hb : mB b) {f : fW} (hmk : mk ≤ 120) (h : MR P mk B res 1000 S (.inl f :: F) x s) (hX : ¬ sX s = 0) (hf : ¬ kd P f.1 = 24 ∨ ¬ f.2.2.1 = 0 ∨ sX s = 9) (hQ : UU dA b w QU (drW S)) : UU dA b w QU S :=
  U_step hb hmk h hX (fun g hg => by cases hg; exact hf) (r_dropW hb hmk h ⟨_, rfl, rfl, rfl, rfl, hQ⟩)
theorem U_a (hb : mB b) {i j : Nat} (hmk : mk ≤ 120) (h : MR P mk B res 1000 S (fa i j :: F) x s) (hX : ¬ sX s = 0) (hnot : fa i j ∉ F) (hQ : ∀ S' : mm, MR P mk B res 1000 S' F none (e_un s i j none) → UU dA b w QU S') : UU dA b w QU S :=
  U_step hb hmk h hX (fun g hg => by cases hg) (r_dropA hb h hnot (fun S' g1 _ => ⟨_, rfl, rfl, rfl, rfl, hQ S' g1⟩))
theorem U_c (hb : mB b) {i : Nat} (hmk : mk ≤ 120) (h : MR P mk B res 1000 S (fc i :: F) x s) (hX : ¬ sX s = 0) (hnot : fc i ∉ F) (hQ : UU dA b w QU (drL S)) : UU dA b w QU S :=
  U_step hb hmk h hX (fun g hg => by cases hg) (r_dropC hb h hnot ⟨_, rfl, rfl, rfl, rfl, hQ⟩)
theorem L_step (hb : mB b) {f : fF} {i : Nat} (hi : i ≤ 90) (hmk : mk ≤ 120) (h : MR P mk B res 1000 S (f :: F) x s) (hf : ∀ j : Nat, f = fc j → ¬ j = i ∨ i = 0) (hQ : zx dA 0 0 0 M_VectorLanguageModel_drop 0 (zargs 1 [.ref (b 0)]) [] (mw dA b w S) 0 0 (fun r w' k' n' => ∃ S' : mm, r = .inl none ∧ k' = 0 ∧ n' = 0 ∧ w' = mw dA b w S' ∧ LV dA b w CC i y S')) : LV dA b w CC i y S := by
  intro d Q o4 hd hqc
  have hlen := MR_len h
  obtain ⟨a1, _⟩ := h.1
  rw [List.length_cons] at hlen a1
  have e25 : S.1 25 - 1 = nI F.length := by rw [a1, nI_pred]
  have hF : F.length < 450 := by omega
  have hgo : zx dA d 0 0 M_VectorLanguageModel_leave 112 [some (.ref (b 0)), some (.int (nI i)), some (.int y), some (.int (if i = 0 then 0 else 1)), o4] [] (mw dA b w S) 0 0 Q := by
    refine z_i rfl rfl ?_
    refine z_cV [] [] 0 0 0 _ rfl (m_obj hb) rfl rfl (Nat.le_of_ble_eq_true rfl) (Nat.le_of_ble_eq_true rfl) (by omega) (by omega) (by omega) hQ (fun _ _ _ _ q => by obtain ⟨_, q, _⟩ := q; cases q) (fun v w' k' n' q => ?_)
    obtain ⟨S', q1, rfl, rfl, rfl, q5⟩ := q
    cases q1
    refine z_j rfl ?_
    exact q5 d Q o4 hd hqc
  refine z_i rfl rfl ?_
  refine m_gt hb rfl rfl ?_
  refine z_bf rfl rfl (show ¬ S.1 25 ≤ 0 by rw [a1]; exact nI_nle (by omega) (by omega)) ?_
  repeat first | refine z_i rfl rfl ?_ | refine m_gt hb rfl rfl ?_
  refine z_b rfl rfl (fun _ => hgo) (fun g0 => ?_)
  have hi0 : ¬ i = 0 := fun q => g0 (by rw [if_pos q])
  repeat first | refine z_i rfl rfl ?_ | refine m_gt hb rfl rfl ?_
  refine m_ld hb (j := F.length) rfl rfl e25 hF ?_
  repeat first | refine z_i rfl rfl ?_ | refine m_gt hb rfl rfl ?_
  refine z_b rfl rfl (fun _ => hgo) (fun g1 => ?_)
  replace g1 : S.2.2.2 19 F.length = -2 := Classical.not_not.mp g1
  match f, h, hf with
  | .inl (e, i', st, a, c), h, _ =>
    have h19 := h.2.2.2.2.2.1.1.1
    have he := h.2.2.2.2.2.1.1.2.2.2.2.2.2.1
    rw [h19] at g1
    exact absurd (show nI e < 0 by rw [g1]; decide) (nI_pos (by omega))
  | .inr (.inl l), h, _ =>
    have h19 := h.2.2.2.2.2.1.1.1
    rw [h19] at g1
    exact absurd g1 (by decide)
  | .inr (.inr j), h, hf =>
    obtain ⟨_, h20, _, _, _, _, hj⟩ := h.2.2.2.2.2.1.1
    have hN := h.2.2.2.2.2.2.2.2.1
    repeat first | refine z_i rfl rfl ?_ | refine m_gt hb rfl rfl ?_
    refine m_ldv hb (j := F.length) rfl rfl e25 hF h20 ?_
    repeat first | refine z_i rfl rfl ?_ | refine m_gt hb rfl rfl ?_
    refine z_bf rfl rfl ?_ hgo
    intro q
    replace q : nI j = nI i := q
    rw [nI_eq (by omega) (by omega)] at q
    exact (hf j rfl).elim (fun k => k q) hi0
theorem L_w (hb : mB b) {f : fW} {i : Nat} (hi : i ≤ 90) (hmk : mk ≤ 120) (h : MR P mk B res 1000 S (.inl f :: F) x s) (hQ : LV dA b w CC i y (drW S)) : LV dA b w CC i y S :=
  L_step hb hi hmk h (fun j hj => by cases hj) (r_dropW hb hmk h ⟨_, rfl, rfl, rfl, rfl, hQ⟩)
theorem L_a (hb : mB b) {i i' j' : Nat} {v : aV} (hi : i ≤ 90) (hmk : mk ≤ 120) (h : MR P mk B res 1000 S (fa i' j' :: F) x s) (hv : VR P mk (sN s) 1000 S y v) (hnot : fa i' j' ∉ F) (hQ : ∀ S' : mm, MR P mk B res 1000 S' F none (e_un s i' j' none) → VR P mk (sN s) 1000 S' y v → LV dA b w CC i y S') : LV dA b w CC i y S :=
  L_step hb hi hmk h (fun j hj => by cases hj) (r_dropA hb h hnot (fun S' g1 g2 => ⟨_, rfl, rfl, rfl, rfl, hQ S' g1 (g2 _ _ hv)⟩))
theorem L_c (hb : mB b) {i n : Nat} (hi : i ≤ 90) (hmk : mk ≤ 120) (h : MR P mk B res 1000 S (fc n :: F) x s) (hne : ¬ n = i) (hnot : fc n ∉ F) (hQ : LV dA b w CC i y (drL S)) : LV dA b w CC i y S :=
  L_step hb hi hmk h (fun j hj => by cases hj; exact Or.inl hne) (r_dropC hb h hnot ⟨_, rfl, rfl, rfl, rfl, hQ⟩)
theorem L_nil (hb : mB b) (h : MR P mk B res 1000 S [] x s) (hQ : CC (jI S 30 y)) : LV dA b w CC 0 y S := by
  intro d Q o4 hd hqc
  obtain ⟨a1, _⟩ := h.1
  refine z_i rfl rfl ?_
  refine m_gt hb rfl rfl ?_
  refine z_bt rfl rfl (show S.1 25 ≤ 0 by rw [a1]; decide) ?_
  repeat first | refine z_i rfl rfl ?_ | refine m_gt hb rfl rfl ?_
  refine z_bf rfl rfl (fun q => q (by rw [a1]; rfl)) ?_
  repeat first | refine z_i rfl rfl ?_ | refine m_gt hb rfl rfl ?_
  refine m_pt hb rfl rfl ?_
  exact z_retV rfl (Nat.zero_le _) (Nat.zero_le _) (hqc _ hQ)
theorem MR_pd {a i h0 : Int32} (h : MR P mk B res 1000 S F none s) : MR P mk B res 1000 (drW (plW S F.length a i h0)) F none s := by
  obtain ⟨⟨a1, a2, a3, a4, a5, a6, a7, a8⟩, m2, m3, m4, m5, m6, m7⟩ := h
  refine ⟨⟨?_, ?_, a3, a4, a5, a6, a7, a8⟩, m2, m3, m4, m5, FR_at (S := S) (S' := drW (plW S F.length a i h0)) (n := sN s) (q := 1000) (Nat.le_refl _) (fun _ _ hv => hv) F none (fun p hp k k1 k2 => pl0_lt (p := F.length) (a := a) (i := i) (h := h0) (by omega) k1 k2) m6, m7⟩
  · show S.1 25 + 1 - 1 = nI F.length
    rw [a1, nI_1, nI_pred]
  · show S.1 26 + 1 - 1 = nI (wk F)
    rw [a2, nI_1, nI_pred]
theorem L_hit (hb : mB b) {i : Nat} (hi : i ≤ 90) (h : MR P mk B res 1000 S (fc i :: F) none s) (hQ : OL dA b w CC y (drW (plW S (F.length + 1) 0 0 0))) : LV dA b w CC i y S := by
  intro d Q o4 hd hqc
  have hlen := MR_len h
  obtain ⟨a1, _⟩ := h.1
  obtain ⟨h19, h20, _, _, _, hi0, _⟩ := h.2.2.2.2.2.1.1
  rw [List.length_cons] at hlen a1
  have e25 : S.1 25 - 1 = nI F.length := by rw [a1, nI_pred]
  have hF : F.length < 450 := by omega
  rw [if_neg (by omega)]
  refine z_i rfl rfl ?_
  refine m_gt hb rfl rfl ?_
  refine z_bf rfl rfl (show ¬ S.1 25 ≤ 0 by rw [a1]; exact nI_nle (by omega) (by omega)) ?_
  repeat first | refine z_i rfl rfl ?_ | refine m_gt hb rfl rfl ?_
  refine z_bf rfl rfl (show ¬ (1 : Int32) = 0 by decide) ?_
  repeat first | refine z_i rfl rfl ?_ | refine m_gt hb rfl rfl ?_
  refine m_ldv hb (j := F.length) rfl rfl e25 hF h19 ?_
  repeat first | refine z_i rfl rfl ?_ | refine m_gt hb rfl rfl ?_
  refine z_bf rfl rfl (fun q => q rfl) ?_
  repeat first | refine z_i rfl rfl ?_ | refine m_gt hb rfl rfl ?_
  refine m_ldv hb (j := F.length) rfl rfl e25 hF h20 ?_
  repeat first | refine z_i rfl rfl ?_ | refine m_gt hb rfl rfl ?_
  refine z_bt rfl rfl rfl ?_
  repeat first | refine z_i rfl rfl ?_ | refine m_gt hb rfl rfl ?_
  refine z_bt rfl rfl (show ¬ S.1 25 = 0 by rw [a1]; exact nI_ne0 (by omega) (by omega)) ?_
  repeat first | refine z_i rfl rfl ?_ | refine m_gt hb rfl rfl ?_
  refine z_cVk [.int 0, .int 0, .int 0] [] 0 0 0 rfl (m_obj hb) rfl rfl (Nat.le_of_ble_eq_true rfl) (Nat.le_of_ble_eq_true rfl) (by omega) (by omega) (by omega) (r_pileW (S := S) hb a1 (by omega) (by decide) ⟨_, rfl, ?_⟩)
  repeat first | refine z_i rfl rfl ?_ | refine m_gt hb rfl rfl ?_
  refine z_cVk [.int y] [] 0 0 0 rfl (m_obj hb) rfl rfl (Nat.le_of_ble_eq_true rfl) (Nat.le_of_ble_eq_true rfl) (by omega) (by omega) (by omega) (?_)
  repeat first | refine z_i rfl rfl ?_ | refine m_gt hb rfl rfl ?_
  refine m_pt hb rfl rfl ?_
  refine z_i rfl rfl ?_
  refine z_i rfl rfl ?_
  refine m_gt hb rfl rfl ?_
  refine z_i rfl rfl ?_
  refine z_i rfl rfl ?_
  refine m_pt hb rfl rfl ?_
  refine hQ 0 _ (fun S' hS' => ⟨_, rfl, ?_⟩)
  exact z_retV rfl (Nat.zero_le _) (Nat.zero_le _) (hqc _ hS')
/-- a sub-expression's end, at a frame that catches nothing -/
theorem K_sub (hb : mB b) (hc : Ctx dA b w CC GG QU) (hmk : mk ≤ 120) {e i st : Nat} {a c : Option aV} {r : aR} {g : aV → aS → aR} (hst : st ≤ 2) (hk : ¬ kd P e = 24 ∨ ¬ st = 0) (hK : KK dA b w CC QU P mk B res F (e_bd r g)) (hg : ∀ (v : aV) (s : aS) (S : mm) (y : Int32), r = (some v, s) → sX s = 0 → MR P mk B res 1000 S (fw e i (st + 1) (dvA st a v) (dvB st c v) :: F) (dvX st v) s → KK dA b w CC QU P mk B res F (g v s) → AD dA b w CC S) : KK dA b w CC QU P mk B res (fw e i st a c :: F) r := by
  refine ⟨fun v s hr hX S y h hv d Q hq => ?_, fun s hr hX S h => ?_, fun s i' v hr hX hR S y h hv hi hO => ?_⟩
  · have hm := MR_dv h hst hv
    refine r_over_w hb hmk h hst (hq _ (hc.1 _ (fun _ => hc.2.1 _ ?_ ?_) (fun q => absurd ?_ q)))
    · obtain ⟨a1, _⟩ := hm.1
      have hlen := MR_len hm
      rw [List.length_cons] at a1 hlen
      rw [a1]
      exact nI_nle (by omega) (by omega)
    · refine hg v s _ y hr hX hm ?_
      rw [hr] at hK
      exact hK
    · rw [hm.1.2.2.2.2.1]
      exact hX
  · rw [hr] at hK
    exact U_w hb hmk h hX (hk.elim Or.inl (fun q => Or.inr (Or.inl q))) (hK.2.1 s rfl hX _ (MR_dropW h))
  · rw [hr] at hK
    have hN := h.2.2.2.2.2.2.2.2.1
    exact L_w hb (Nat.le_trans hi hN) hmk h (hK.2.2 s i' v rfl hX hR _ y (MR_dropW h) hv hi hO)
theorem r_place_loop (hb : mB b) {j : Nat} {o1 : Option Value} (h : MR P mk B res q S F x s) (hj : j < 10) : ∀ (r i : Nat), i ≤ sN s → i < r → (e_pl s j r i = none → Q (.inl (some (.int (-1)))) (mw dA b w S) 0 0) → (∀ i' : Nat, e_pl s j r i = some i' → i' ≤ sN s → (sL s i' j).isSome → Q (.inl (some (.int (nI (10 * i' + j))))) (mw dA b w S) 0 0) →
    zx dA d 0 0 M_VectorLanguageModel_place 2 [some (.ref (b 0)), o1, some (.int (nI j)), some (.int (nI i))] [] (mw dA b w S) 0 0 Q := by
  intro r
  have hN := h.2.2.2.2.2.2.2.2.1
  induction r with
  | zero => intro i _ hr; omega
  | succ r ih =>
    intro i hi hr h0 h1
    have hs := h.2.2.2.2.1.1 i j hi hj
    have hen := h.2.2.2.1 i hi
    unfold e_pl at h0 h1
    refine z_i rfl rfl ?_
    refine z_bf rfl rfl (nI_pos (by omega)) ?_
    repeat first | refine z_i rfl rfl ?_ | refine m_gt hb rfl rfl ?_
    refine m_ld hb (j := 10 * i + j) rfl rfl (by show nI 10 * nI i + nI j = _; rw [pk_mul, nI_add]) (show 10 * i + j < 910 by omega) ?_
    by_cases hsome : (sL s i j).isSome = true
    · rw [if_pos hsome] at h0 h1
      have hne : ¬ S.2.2.2 15 (10 * i + j) = 0 := by
        generalize sL s i j = l at hs hsome
        match l, hs with
        | some (.inl v), hs => rw [hs.1]; decide
        | some (.inr (e, i, true, o)), hs => rw [hs.1]; decide
        | some (.inr (e, i, false, none)), hs => rw [hs.1]; decide
        | some (.inr (e, i, false, some v)), hs => rw [hs.1]; decide
        | none, _ => cases hsome
      refine z_bf rfl rfl hne ?_
      repeat first | refine z_i rfl rfl ?_ | refine m_gt hb rfl rfl ?_
      dsimp only
      rw [show (10 : Int32) = nI 10 from rfl, pk_mul, nI_add]
      exact z_retI rfl (Nat.zero_le _) (Nat.zero_le _) (h1 i rfl hi hsome)
    · rw [if_neg hsome] at h0 h1
      have h15 : S.2.2.2 15 (10 * i + j) = 0 := by
        generalize sL s i j = l at hs hsome
        match l, hs with
        | some l, _ => exact absurd rfl hsome
        | none, hs => exact hs
      refine z_bt rfl rfl h15 ?_
      repeat first | refine z_i rfl rfl ?_ | refine m_gt hb rfl rfl ?_
      cases hc : sC s i with
      | none =>
        rw [hc] at hen h0 h1
        refine m_ldv hb (j := i) rfl rfl rfl (show i < 91 by omega) hen.2 ?_
        refine z_i rfl rfl ?_
        refine z_j rfl ?_
        refine z_i rfl rfl ?_
        refine z_bt rfl rfl (show (-1 : Int32) < 0 by decide) ?_
        refine z_i rfl rfl ?_
        exact z_retI rfl (Nat.zero_le _) (Nat.zero_le _) (h0 rfl)
      | some fn =>
        rw [hc] at hen h0 h1
        refine m_ldv hb (j := i) rfl rfl rfl (show i < 91 by omega) hen.2.1 ?_
        refine z_i rfl rfl ?_
        refine z_j rfl ?_
        exact ih fn.2.1 (by have := hen.1; omega) (by have := hen.1; omega) h0 h1
theorem r_place (hb : mB b) {i j : Nat} (h : MR P mk B res q S F x s) (hj : j < 10) (hi : i ≤ sN s) (h0 : e_pl s j 91 i = none → Q (.inl (some (.int (-1)))) (mw dA b w S) 0 0) (h1 : ∀ i' : Nat, e_pl s j 91 i = some i' → i' ≤ sN s → (sL s i' j).isSome → Q (.inl (some (.int (nI (10 * i' + j))))) (mw dA b w S) 0 0) :
    zx dA d 0 0 M_VectorLanguageModel_place 0 (zargs 4 [.ref (b 0), .int (nI i), .int (nI j)]) [] (mw dA b w S) 0 0 Q := by
  have hN := h.2.2.2.2.2.2.2.2.1
  refine z_i rfl rfl ?_
  refine z_i rfl rfl ?_
  exact r_place_loop hb h hj 91 i hi (by omega) h0 h1
def gvS (S : mm) (k : Nat) (y : Int32) : mm := jA (jA S 15 k 1) 16 k y
theorem r_give (hb : mB b) {i j : Nat} (hi : i ≤ 90) (hj : j < 10) (hQ : Q (.inl none) (mw dA b w (gvS S (10 * i + j) y)) 0 0) : zx dA d 0 0 M_VectorLanguageModel_give 0 (zargs 4 [.ref (b 0), .int (nI i), .int (nI j), .int y]) [] (mw dA b w S) 0 0 Q := by
  have e1 : nI 10 * nI i + nI j = nI (10 * i + j) := by rw [pk_mul, nI_add]
  repeat first | refine z_i rfl rfl ?_ | refine m_gt hb rfl rfl ?_
  refine m_st hb (j := 10 * i + j) rfl rfl e1 (show 10 * i + j < 910 by omega) ?_
  repeat first | refine z_i rfl rfl ?_ | refine m_gt hb rfl rfl ?_
  refine m_st hb (j := 10 * i + j) rfl rfl e1 (show 10 * i + j < 910 by omega) ?_
  exact z_retV rfl (Nat.zero_le _) (Nat.zero_le _) hQ
theorem MR_give {i j : Nat} {v : aV} (h : MR P mk B res q S F x s) (hi : i ≤ sN s) (hj : j < 10) (hv : VR P mk (sN s) q S y v) : MR P mk B res q (gvS S (10 * i + j) y) F x (uL s i j (some (.inl v))) :=
  MR_slotU h hi hj (fun k hk => ⟨pk_un hk, pk_un hk, rfl, rfl⟩) (fun k k1 k2 _ _ => (va_up_ne _ _ k2).trans (va_up_ne _ _ k1)) ⟨rfl, rfl, rfl⟩ ⟨pk_us, by rw [show (gvS S (10 * i + j) y).2.2.2 16 (10 * i + j) = y from pk_us]; exact hv⟩ (fun _ => trivial)
end CY
