/-! the reference's steps stand for the pure evaluator; its run -/
section SM
variable {dA : Nat → ClassId} {b : Nat → Nat} {w : ww_W} {CC GG : mm → Prop} {QU : zQ} {P : aP} {mk B n q : Nat} {res : rP} {S S' : mm} {F : List fF} {x : Option aV} {s : aS} {y : Int32} {d : Nat} {Q : zQ}
theorem stp_0 {f : aS → Nat → Nat → aR} {e i : Nat} (h : kd P e = nI 0) : e_stp P f s e i = (some (.inl [pa P e]), s) := by
  unfold e_stp
  rw [h]
  rfl
theorem stp_1 {f : aS → Nat → Nat → aR} {e i : Nat} (h : kd P e = nI 1) : e_stp P f s e i = (some (.inl [pNA]), s) := by
  unfold e_stp
  rw [h]
  rfl
theorem stp_2 {f : aS → Nat → Nat → aR} {e i : Nat} (h : kd P e = nI 2) : e_stp P f s e i = (some (.inl []), s) := by
  unfold e_stp
  rw [h]
  rfl
theorem stp_3 {f : aS → Nat → Nat → aR} {e i : Nat} (h : kd P e = nI 3) : e_stp P f s e i = e_read P f s e i := by
  unfold e_stp
  rw [h]
  rfl
theorem stp_4 {f : aS → Nat → Nat → aR} {e i : Nat} (h : kd P e = nI 4) : e_stp P f s e i = e_asg P f s e i := by
  unfold e_stp
  rw [h]
  rfl
theorem stp_5 {f : aS → Nat → Nat → aR} {e i : Nat} (h : kd P e = nI 5) : e_stp P f s e i = e_asg P f s e i := by
  unfold e_stp
  rw [h]
  rfl
theorem stp_6 {f : aS → Nat → Nat → aR} {e i : Nat} (h : kd P e = nI 6) : e_stp P f s e i = e_two P f s e i := by
  unfold e_stp
  rw [h]
  rfl
theorem stp_7 {f : aS → Nat → Nat → aR} {e i : Nat} (h : kd P e = nI 7) : e_stp P f s e i = e_two P f s e i := by
  unfold e_stp
  rw [h]
  rfl
theorem stp_8 {f : aS → Nat → Nat → aR} {e i : Nat} (h : kd P e = nI 8) : e_stp P f s e i = e_two P f s e i := by
  unfold e_stp
  rw [h]
  rfl
theorem stp_9 {f : aS → Nat → Nat → aR} {e i : Nat} (h : kd P e = nI 9) : e_stp P f s e i = e_one P f s e i := by
  unfold e_stp
  rw [h]
  rfl
theorem stp_10 {f : aS → Nat → Nat → aR} {e i : Nat} (h : kd P e = nI 10) : e_stp P f s e i = e_two P f s e i := by
  unfold e_stp
  rw [h]
  rfl
theorem stp_11 {f : aS → Nat → Nat → aR} {e i : Nat} (h : kd P e = nI 11) : e_stp P f s e i = e_two P f s e i := by
  unfold e_stp
  rw [h]
  rfl
theorem stp_12 {f : aS → Nat → Nat → aR} {e i : Nat} (h : kd P e = nI 12) : e_stp P f s e i = e_two P f s e i := by
  unfold e_stp
  rw [h]
  rfl
theorem stp_13 {f : aS → Nat → Nat → aR} {e i : Nat} (h : kd P e = nI 13) : e_stp P f s e i = e_repl P f s e i := by
  unfold e_stp
  rw [h]
  rfl
theorem stp_14 {f : aS → Nat → Nat → aR} {e i : Nat} (h : kd P e = nI 14) : e_stp P f s e i = e_one P f s e i := by
  unfold e_stp
  rw [h]
  rfl
theorem stp_15 {f : aS → Nat → Nat → aR} {e i : Nat} (h : kd P e = nI 15) : e_stp P f s e i = e_one P f s e i := by
  unfold e_stp
  rw [h]
  rfl
theorem stp_16 {f : aS → Nat → Nat → aR} {e i : Nat} (h : kd P e = nI 16) : e_stp P f s e i = e_if P f s e i := by
  unfold e_stp
  rw [h]
  rfl
theorem stp_17 {f : aS → Nat → Nat → aR} {e i : Nat} (h : kd P e = nI 17) : e_stp P f s e i = e_whl P f e i 401 s := by
  unfold e_stp
  rw [h]
  rfl
theorem stp_18 {f : aS → Nat → Nat → aR} {e i : Nat} (h : kd P e = nI 18) : e_stp P f s e i = e_then P f s e i := by
  unfold e_stp
  rw [h]
  rfl
theorem stp_19 {f : aS → Nat → Nat → aR} {e i : Nat} (h : kd P e = nI 19) : e_stp P f s e i = (some (.inr (e, i, sF s)), uF s (sF s + 1)) := by
  unfold e_stp
  rw [h]
  rfl
theorem stp_20 {f : aS → Nat → Nat → aR} {e i : Nat} (h : kd P e = nI 20) : e_stp P f s e i = e_call P f s e i := by
  unfold e_stp
  rw [h]
  rfl
theorem stp_21 {f : aS → Nat → Nat → aR} {e i : Nat} (h : kd P e = nI 21) : e_stp P f s e i = e_abs P s e i := by
  unfold e_stp
  rw [h]
  rfl
theorem stp_22 {f : aS → Nat → Nat → aR} {e i : Nat} (h : kd P e = nI 22) : e_stp P f s e i = e_ret P f s e i := by
  unfold e_stp
  rw [h]
  rfl
theorem stp_23 {f : aS → Nat → Nat → aR} {e i : Nat} (h : kd P e = nI 23) : e_stp P f s e i = e_one P f s e i := by
  unfold e_stp
  rw [h]
  rfl
theorem stp_24 {f : aS → Nat → Nat → aR} {e i : Nat} (h : kd P e = nI 24) : e_stp P f s e i = e_try P f s e i := by
  unfold e_stp
  rw [h]
  rfl
theorem stp_25 {f : aS → Nat → Nat → aR} {e i : Nat} (h : kd P e = nI 25) : e_stp P f s e i = e_two P f s e i := by
  unfold e_stp
  rw [h]
  rfl
set_option maxRecDepth 100000 in
theorem sim_stp (hb : mB b) (hc : Ctx dA b w CC GG QU) (hcc : ∀ S : mm, CC S → (S.1 29 = 0 → GG S) ∧ (¬ S.1 29 = 0 → UU dA b w QU S)) (hmk : mk ≤ 120) (hP : ∀ e : Nat, e < mk → okE e (kd P e) (pa P e) (pb P e) (pc P e)) {e i d : Nat} {s1 : aS} (IH : SIM dA b w CC QU P mk B res d) (he : e < mk) (hm : MR P mk B res 1000 S (fw e i 0 none none :: F) none s1) (hX1 : sX s1 = 0) (hwk1 : wk F + 1 + d = 40) (hsl : sF s1 + 401 ≤ B + sT s1) (hK : KK dA b w CC QU P mk B res F (e_stp P (e_ev P d) s1 e i)) : AD dA b w CC S := by
  have hF19 : ∀ e : Nat, e < mk → kd P e = 19 → okF P mk e := by
    intro e he h19
    obtain ⟨_, _, _, _, _, _, _, _, _, _, _, o19, _⟩ := hP e he
    obtain ⟨⟨j, j1, j2⟩, o2⟩ := o19 h19
    exact ⟨⟨j, by omega, j2⟩, o2⟩
  obtain ⟨⟨k, hk, hkd⟩, o0, o3, o45, o6, o7, o8, oAB, oA, o13, o16, o19, o20⟩ := hP e he
  have hk' : k = 0 ∨ k = 1 ∨ k = 2 ∨ k = 3 ∨ k = 4 ∨ k = 5 ∨ k = 6 ∨ k = 7 ∨ k = 8 ∨ k = 9 ∨ k = 10 ∨ k = 11 ∨ k = 12 ∨ k = 13 ∨ k = 14 ∨ k = 15 ∨ k = 16 ∨ k = 17 ∨ k = 18 ∨ k = 19 ∨ k = 20 ∨ k = 21 ∨ k = 22 ∨ k = 23 ∨ k = 24 ∨ k = 25 := by omega
  rcases hk' with rfl | rfl | rfl | rfl | rfl | rfl | rfl | rfl | rfl | rfl | rfl | rfl | rfl | rfl | rfl | rfl | rfl | rfl | rfl | rfl | rfl | rfl | rfl | rfl | rfl | rfl
  · rw [stp_0 hkd] at hK
    exact k_num hb hmk hkd (Or.inr (o0 hkd)) hm hX1 hK
  · rw [stp_1 hkd] at hK
    exact k_na hb hmk hkd hm hX1 hK
  · rw [stp_2 hkd] at hK
    exact k_nul hb hmk hkd hm hX1 hK
  · rw [stp_3 hkd] at hK
    obtain ⟨j, j1, j2⟩ := o3 (Or.inl hkd)
    exact k_read hb hc hmk IH hkd j1 j2 hm hX1 hwk1 hK
  · rw [stp_4 hkd] at hK
    obtain ⟨⟨j, j1, j2⟩, z, z1, z2⟩ := o45 (Or.inl hkd)
    exact k_asg hb hc hmk IH hkd (by omega) j1 j2 z2 (by omega) hm hX1 hwk1 hK
  · rw [stp_5 hkd] at hK
    obtain ⟨⟨j, j1, j2⟩, z, z1, z2⟩ := o45 (Or.inr (hkd))
    exact k_asg hb hc hmk IH hkd (by omega) j1 j2 z2 (by omega) hm hX1 hwk1 hK
  · rw [stp_6 hkd] at hK
    obtain ⟨⟨z, z1, z2⟩, y, y1, y2⟩ := oAB (Or.inl hkd)
    obtain ⟨p1, p2⟩ := o6 hkd
    obtain ⟨o, q1, q2⟩ := nI_of2 (M := 4) (n := 4) (by decide) p1 p2
    exact k_two hb hc hmk IH hkd (by omega) (fun _ => ⟨o, q1, q2⟩) z2 (by omega) y2 (by omega) hm hX1 hwk1 hK
  · rw [stp_7 hkd] at hK
    obtain ⟨⟨z, z1, z2⟩, y, y1, y2⟩ := oAB (Or.inr (Or.inl hkd))
    exact k_two hb hc hmk IH hkd (by omega) (fun q => by cases q) z2 (by omega) y2 (by omega) hm hX1 hwk1 hK
  · rw [stp_8 hkd] at hK
    obtain ⟨⟨z, z1, z2⟩, y, y1, y2⟩ := oAB (Or.inr (Or.inr (Or.inl hkd)))
    exact k_two hb hc hmk IH hkd (by omega) (fun q => by cases q) z2 (by omega) y2 (by omega) hm hX1 hwk1 hK
  · rw [stp_9 hkd] at hK
    obtain ⟨z, z1, z2⟩ := oA (Or.inl hkd)
    exact k_one hb hc hmk IH hkd (by omega) z2 (by omega) hm hX1 hwk1 hK
  · rw [stp_10 hkd] at hK
    obtain ⟨⟨z, z1, z2⟩, y, y1, y2⟩ := oAB (Or.inr (Or.inr (Or.inr (Or.inl hkd))))
    exact k_two hb hc hmk IH hkd (by omega) (fun q => by cases q) z2 (by omega) y2 (by omega) hm hX1 hwk1 hK
  · rw [stp_11 hkd] at hK
    obtain ⟨⟨z, z1, z2⟩, y, y1, y2⟩ := oAB (Or.inr (Or.inr (Or.inr (Or.inr (Or.inl hkd)))))
    exact k_two hb hc hmk IH hkd (by omega) (fun q => by cases q) z2 (by omega) y2 (by omega) hm hX1 hwk1 hK
  · rw [stp_12 hkd] at hK
    obtain ⟨⟨z, z1, z2⟩, y, y1, y2⟩ := oAB (Or.inr (Or.inr (Or.inr (Or.inr (Or.inr (Or.inl hkd))))))
    exact k_two hb hc hmk IH hkd (by omega) (fun q => by cases q) z2 (by omega) y2 (by omega) hm hX1 hwk1 hK
  · rw [stp_13 hkd] at hK
    obtain ⟨⟨j, j1, j2⟩, ⟨z, z1, z2⟩, y, y1, y2⟩ := o13 hkd
    exact k_repl hb hc hmk IH hkd j1 j2 z2 (by omega) y2 (by omega) hm hX1 hwk1 hK
  · rw [stp_14 hkd] at hK
    obtain ⟨z, z1, z2⟩ := oA (Or.inr (Or.inl hkd))
    exact k_one hb hc hmk IH hkd (by omega) z2 (by omega) hm hX1 hwk1 hK
  · rw [stp_15 hkd] at hK
    obtain ⟨z, z1, z2⟩ := oA (Or.inr (Or.inr (Or.inl hkd)))
    exact k_one hb hc hmk IH hkd (by omega) z2 (by omega) hm hX1 hwk1 hK
  · rw [stp_16 hkd] at hK
    obtain ⟨⟨z, z1, z2⟩, ⟨y, y1, y2⟩, oc⟩ := o16 hkd
    exact k_if hb hc hmk IH hkd z2 (by omega) y2 (by omega) (oc.imp id (fun ⟨t, t1, t2⟩ => ⟨t, by omega, t2⟩)) hm hX1 hwk1 hK
  · rw [stp_17 hkd] at hK
    obtain ⟨⟨z, z1, z2⟩, y, y1, y2⟩ := oAB (Or.inr (Or.inr (Or.inr (Or.inr (Or.inr (Or.inr (Or.inl hkd)))))))
    exact k_whl hb hc hmk IH hkd z2 (by omega) y2 (by omega) hwk1 401 s1 _ none none (by omega) hm hX1 hK
  · rw [stp_18 hkd] at hK
    obtain ⟨⟨z, z1, z2⟩, y, y1, y2⟩ := oAB (Or.inr (Or.inr (Or.inr (Or.inr (Or.inr (Or.inr (Or.inr (Or.inl hkd))))))))
    exact k_then hb hc hmk IH hkd z2 (by omega) y2 (by omega) hm hX1 hwk1 hK
  · rw [stp_19 hkd] at hK
    exact k_fun hb hmk hkd hm hX1 hsl hK
  · rw [stp_20 hkd] at hK
    obtain ⟨⟨z, z1, z2⟩, oc⟩ := o20 hkd
    exact k_call hb hc hmk IH hF19 hkd (oc.imp id (fun ⟨⟨t, t1, t2⟩, u⟩ => ⟨t, by omega, t2, u.imp id (fun ⟨v, v1, v2⟩ => ⟨v, by omega, v2⟩)⟩)) z2 (by omega) hm hX1 hwk1 hK
  · rw [stp_21 hkd] at hK
    exact k_abs hb hc hmk hkd hm hX1 hK
  · rw [stp_22 hkd] at hK
    obtain ⟨z, z1, z2⟩ := oA (Or.inr (Or.inr (Or.inr (Or.inl hkd))))
    exact k_ret hb hc hmk IH hkd z2 (by omega) hm hX1 hwk1 hK
  · rw [stp_23 hkd] at hK
    obtain ⟨z, z1, z2⟩ := oA (Or.inr (Or.inr (Or.inr (Or.inr (hkd)))))
    exact k_one hb hc hmk IH hkd (by omega) z2 (by omega) hm hX1 hwk1 hK
  · rw [stp_24 hkd] at hK
    obtain ⟨⟨z, z1, z2⟩, y, y1, y2⟩ := oAB (Or.inr (Or.inr (Or.inr (Or.inr (Or.inr (Or.inr (Or.inr (Or.inr (Or.inl hkd)))))))))
    refine k_try hb hc hcc hmk IH hkd z2 (by omega) y2 (by omega) hm hX1 hwk1 (fun s2 hr => ?_) hK
    have := X_ev (P := P) d s1 z i (by show okI (sX s1); rw [hX1]; exact okI_nI (n := 0) (by decide))
    rw [hr] at this
    exact this
  · rw [stp_25 hkd] at hK
    obtain ⟨⟨z, z1, z2⟩, y, y1, y2⟩ := oAB (Or.inr (Or.inr (Or.inr (Or.inr (Or.inr (Or.inr (Or.inr (Or.inr (Or.inr (hkd))))))))))
    exact k_two hb hc hmk IH hkd (by omega) (fun q => by cases q) z2 (by omega) y2 (by omega) hm hX1 hwk1 hK
theorem sim_all (hb : mB b) (hc : Ctx dA b w CC GG QU) (hcc : ∀ S : mm, CC S → (S.1 29 = 0 → GG S) ∧ (¬ S.1 29 = 0 → UU dA b w QU S)) (hmk : mk ≤ 120) (hP : ∀ e : Nat, e < mk → okE e (kd P e) (pa P e) (pb P e) (pc P e)) : ∀ d : Nat, SIM dA b w CC QU P mk B res d := by
  intro d
  induction d with
  | zero =>
    intro F s e i S h hX hwk he hi hK d' Q hd' hq
    refine r_begin hb hd' hmk h he hi (fun _ => hq _ (hc.1 _ (fun q => absurd (show (9 : Int32) = 0 from q) (by decide)) (fun _ => hK.2.1 (uX s 9) rfl (show ¬ (9 : Int32) = 0 by decide) _ (MR_err h 9)))) (fun _ q => by omega)
  | succ d IH =>
    intro F s e i S h hX hwk he hi hK d' Q hd' hq
    unfold e_ev at hK
    refine r_begin hb hd' hmk h he hi (fun g => ?_) (fun g1 g2 => ?_)
    · rw [if_pos (by omega)] at hK
      exact hq _ (hc.1 _ (fun q => absurd (show (9 : Int32) = 0 from q) (by decide)) (fun _ => hK.2.1 (uX s 9) rfl (show ¬ (9 : Int32) = 0 by decide) _ (MR_err h 9)))
    · rw [if_neg (by omega)] at hK
      have hm := MR_pushW h g2 g1 he hi
      have hX1 : sX (uT s (sT s + 1)) = 0 := hX
      have c5 := h.2.2.2.2.2.2.2.2.2.2.1
      have hsl : sF (uT s (sT s + 1)) + 401 ≤ B + sT (uT s (sT s + 1)) := by
        show sF s + 401 ≤ B + (sT s + 1)
        omega
      exact hq _ (cc_go hc hm hX1 (sim_stp hb hc hcc hmk hP IH he hm hX1 (by omega) hsl hK))
end SM
