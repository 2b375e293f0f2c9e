/-! the law: its loop, its beginning -/
section LL
variable {dA : Nat → ClassId} {U : yU} {K N d v o m0 kb nb : Nat} {Q : zQ}
theorem law_lt {L t : Nat} (hL : L ≤ 2560) (ht : t ≤ 512) : nI L - 5 < nI (5 * t) ↔ L < 5 * t + 5 := by
  have i5 : (5 : Int32).toInt = 5 := by decide
  have e : (nI L - 5).toInt = (L : Int) - 5 := by
    rw [i32_sub (by rw [nI_toInt (by omega), i5]; omega) (by rw [nI_toInt (by omega), i5]; omega), nI_toInt (by omega), i5]
  rw [Int32.lt_iff_toInt_lt, e, nI_toInt (by omega)]
  omega
set_option maxRecDepth 100000 in
theorem law_loop (hL : U.2.1 ≤ 2560) (hd : 180 ≤ d) (hK : kb + 981 * 512 ≤ K) (hN : nb + 8876 * 512 ≤ N) (hQ : ∀ (w : ww_W) (k n : Nat), k ≤ K → n ≤ N → Q (.inl (some (.int 1))) w k n) :
    ∀ (r t k n : Nat) (w : ww_W) (o5 o6 : Option Value), t + r = 512 → JA dA v o m0 w t → k ≤ kb + 981 * t → n ≤ nb + 8876 * t → zy dA U d K N Y_law 23 [some (.ref U.1), some (.ref v), some (.ref m0), some (.ref o), some (.int (nI (5 * t))), o5, o6] [] w k n Q := by
  intro r
  induction r with
  | zero =>
    intro t k n w o5 o6 ht hJ hk hn
    repeat refine y_i rfl rfl ?_
    refine y_slen rfl ?_
    repeat refine y_i rfl rfl ?_
    refine y_bt rfl rfl (show nI U.2.1 - 5 < nI (5 * t) from (law_lt hL (by omega)).mpr (by omega)) ?_
    repeat refine y_i rfl rfl ?_
    exact y_retZ rfl (Or.inr rfl) (by omega) (by omega) (hQ _ _ _ (by omega) (by omega))
  | succ r ih =>
    intro t k n w o5 o6 ht hJ hk hn
    repeat refine y_i rfl rfl ?_
    refine y_slen rfl ?_
    repeat refine y_i rfl rfl ?_
    refine y_b rfl rfl (fun g => ?_) (fun g => ?_)
    · repeat refine y_i rfl rfl ?_
      exact y_retZ rfl (Or.inr rfl) (by omega) (by omega) (hQ _ _ _ (by omega) (by omega))
    · replace g : ¬ nI U.2.1 - 5 < nI (5 * t) := g
      rw [law_lt hL (by omega)] at g
      have hi : 5 * t + 4 < U.2.1 := by omega
      have hU : U.2.1 < 2 ^ 31 := by omega
      have hnx : LN dA U d K N v o m0 (5 * t) t k n Q := by
        intro w' k' n' p5 p6 hJ' hk' hn'
        refine y_i rfl rfl ?_
        refine y_j rfl ?_
        have e : nI (5 * t) + 5 = nI (5 * (t + 1)) := nI_add (5 * t) 5
        rw [e]
        exact ih (t + 1) k' n' w' p5 p6 (by omega) hJ' (by omega) (by omega)
      repeat refine y_i rfl rfl ?_
      refine y_sld (j := 5 * t) rfl rfl (by omega) hU ?_
      repeat refine y_i rfl rfl ?_
      dsimp only
      generalize U.2.2 (5 * t) &&& 7 = z
      by_cases z0 : z = 0
      · subst z0
        refine y_sw (t := 84) rfl (by decide) ?_
        exact lc_expression hi hU hd (by omega) (by omega) hJ hnx
      by_cases z1 : z = 1
      · subst z1
        refine y_sw (t := 176) rfl (by decide) ?_
        exact lc_run hi hU hd (by omega) (by omega) (by omega) hJ hnx
      by_cases z2 : z = 2
      · subst z2
        refine y_sw (t := 232) rfl (by decide) ?_
        exact lc_element hi hU hd (by omega) (by omega) hJ hnx
      by_cases z3 : z = 3
      · subst z3
        refine y_sw (t := 288) rfl (by decide) ?_
        exact lc_failure hd (by omega) (by omega) hJ hnx
      by_cases z4 : z = 4
      · subst z4
        refine y_sw (t := 301) rfl (by decide) ?_
        exact lc_variable hi hU hd (by omega) (by omega) hJ hnx
      by_cases z5 : z = 5
      · subst z5
        refine y_sw (t := 357) rfl (by decide) ?_
        exact lc_value hi hU hd (by omega) (by omega) hJ hnx
      by_cases z6 : z = 6
      · subst z6
        refine y_sw (t := 425) rfl (by decide) ?_
        exact lc_reset hd (by omega) (by omega) hJ hnx
      by_cases z7 : z = 7
      · subst z7
        refine y_sw (t := 438) rfl (by decide) ?_
        exact lc_count hi hU hd (by omega) (by omega) hJ hnx
      have n0 : ¬ z.toInt = 0 := fun q => z0 (Int32.toInt_inj.mp (q.trans (by decide)))
      have n1 : ¬ z.toInt = 1 := fun q => z1 (Int32.toInt_inj.mp (q.trans (by decide)))
      have n2 : ¬ z.toInt = 2 := fun q => z2 (Int32.toInt_inj.mp (q.trans (by decide)))
      have n3 : ¬ z.toInt = 3 := fun q => z3 (Int32.toInt_inj.mp (q.trans (by decide)))
      have n4 : ¬ z.toInt = 4 := fun q => z4 (Int32.toInt_inj.mp (q.trans (by decide)))
      have n5 : ¬ z.toInt = 5 := fun q => z5 (Int32.toInt_inj.mp (q.trans (by decide)))
      have n6 : ¬ z.toInt = 6 := fun q => z6 (Int32.toInt_inj.mp (q.trans (by decide)))
      have n7 : ¬ z.toInt = 7 := fun q => z7 (Int32.toInt_inj.mp (q.trans (by decide)))
      refine y_sw (t := 494) rfl ?_ ?_
      · rw [zswt_ne n0, zswt_ne n1, zswt_ne n2, zswt_ne n3, zswt_ne n4, zswt_ne n5, zswt_ne n6, zswt_ne n7]
        rfl
      exact hnx w k n o5 o6 (JA_le hJ (by omega)) (by omega) (by omega)
/-- the joint state at the beginning -/
theorem JA_0 {b c : Nat → Nat} {W W1 : ww_W} {G : gG} {fs : List Value} (hb : mB b) (h1 : CI dA c (fun _ => (0, 0, 0, 0)) 0 W G aS0) (h2 : W v = some (mrow c .null)) (hm : W (b 0) = none) (hW1 : W1 = va_up W (b 0) (some (.inr (C_Model, fs)))) (hfr : ∀ k : Nat, mO k = true → k ≠ 0 → W1 (b k) = none) (ho : mw dA b W1 mS1 o = none) : JA dA v o (b 0) (va_up (mw dA b W1 mS1) o (some (orow dA (fun _ => 0)))) 0 := by
  have hf : ∀ k : Nat, mO k = true → W (b k) = none := by
    intro k hk
    by_cases k0 : k = 0
    · rw [k0]; exact hm
    · have := hfr k hk k0
      rw [hW1] at this
      have hne : b k ≠ b 0 := fun e => k0 (hb k 0 hk rfl e)
      rw [va_up_ne _ _ hne] at this
      exact this
  have hk3 : ∀ (a : Nat) (e : va_E), W a = some e → mw dA b W1 mS1 a = some e := by
    intro a e ha
    have hn : ∀ k : Nat, mO k = true → a ≠ b k := fun k hk q => by rw [q, hf k hk] at ha; cases ha
    rw [mw_out hn, hW1, va_up_ne _ _ (hn 0 rfl)]
    exact ha
  have h4 : b 32 ≠ c 4 := by
    obtain ⟨_, _, _, ⟨n, b1, a1, x, F, f1, f2⟩, _⟩ := h1
    intro q
    rw [← q, hf 32 rfl] at f2
    cases f2
  have hC3 : CI dA (va_up c 9 (b 32)) (fun _ => (0, 0, 0, 0)) 0 (mw dA b W1 mS1) G aS0 := CI_c9 hk3 (hf 32 rfl) ⟨_, mw_at hb rfl (by decide), mE_nm rfl h4⟩ h1
  have hk4 : ∀ (a : Nat) (e : va_E), mw dA b W1 mS1 a = some e → va_up (mw dA b W1 mS1) o (some (orow dA (fun _ => 0))) a = some e := by
    intro a e ha
    have : a ≠ o := fun q => by rw [q, ho] at ha; cases ha
    rw [va_up_ne _ _ this]
    exact ha
  have hC4 : CI dA (va_up c 9 (b 32)) (fun _ => (0, 0, 0, 0)) 0 (va_up (mw dA b W1 mS1) o (some (orow dA (fun _ => 0)))) G aS0 := CI_to (fun a e ha _ => hk4 a e ha) (Exists.elim hC3.2.2.1.2.2.2.2 (fun e9 t => ⟨e9, hk4 _ _ t.1, t.2⟩)) hC3
  refine ⟨b, va_up c 9 (b 32), fun _ => (0, 0, 0, 0), 0, 400, G, aS0, mS1, (none, -1), hb, rfl, va_up_self _ _ _, ⟨hC4, ⟨.null, hk4 _ _ (hk3 _ _ h2), rfl⟩, fun _ => 0, va_up_self _ _ _⟩, ?_, IDL_0, fun j a q => (by have q2 : (none : aL) = some (.inr a) := q; cases q2), Nat.le_refl _⟩
  exact mw_same hb (fun k hk => hk4 _ _ (mw_at hb hk (mO_lt hk)))
set_option maxRecDepth 100000 in
theorem law_start (hL : U.2.1 ≤ 2560) (hd : 180 ≤ d) (hK : 39 + 981 * 512 ≤ K) (hN : 17324 + 8876 * 512 ≤ N) (hQ : ∀ (w : ww_W) (k n : Nat), k ≤ K → n ≤ N → Q (.inl (some (.int 1))) w k n) : zy dA U d K N Y_law 0 (zargs 7 [.ref U.1]) [] (fun _ => none) 0 0 Q := by
  refine y_new rfl (by omega) (by omega) (fun v hv => ?_)
  repeat refine y_i rfl rfl ?_
  refine y_cIk [] [.ref v] 5 15 178 rfl rfl rfl (Nat.le_of_ble_eq_true rfl) (Nat.le_of_ble_eq_true rfl) (by omega) (by omega) (by omega) (r_VL_init (P := fun _ => (0, 0, 0, 0)) (l := []) (by omega) (by omega) (by omega) ⟨fun p hp => ?_, by simp⟩ (fun c G W h1 h2 h3 => ⟨_, rfl, ?_⟩))
  · simp only [List.mem_singleton] at hp
    subst hp
    exact va_up_self _ _ _
  repeat refine y_i rfl rfl ?_
  refine y_new rfl (by omega) (by omega) (fun m hm => ?_)
  repeat refine y_i rfl rfl ?_
  refine y_cIk [] [.ref m] 1 21 17109 rfl rfl rfl (Nat.le_of_ble_eq_true rfl) (Nat.le_of_ble_eq_true rfl) (by omega) (by omega) (by omega) (r_initR (by omega) (by omega) (by omega) (va_up_self _ _ _) (fun b hb hb0 hfr => ⟨_, rfl, ?_⟩))
  subst hb0
  repeat refine y_i rfl rfl ?_
  refine y_newl (j := 1) rfl rfl (by decide) (by omega) (by omega) (fun o ho => ?_)
  refine y_i rfl rfl ?_
  refine y_i rfl rfl ?_
  refine y_i rfl rfl ?_
  exact law_loop (kb := 39) (nb := 17324) hL hd hK hN hQ 512 0 _ _ _ none none rfl (JA_0 hb h1 h2 hm rfl hfr ho) (by omega) (by omega)
end LL
