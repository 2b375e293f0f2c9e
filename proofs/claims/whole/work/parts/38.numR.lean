/-! the reference's numbers: down, arithmetic, compare, logic -/
section MN
variable {dA : Nat → ClassId} {w : ww_W} {d : Nat} {Q : zQ}
theorem i64_div {x y : Int32} (h1 : -1000000000 ≤ x.toInt ∧ x.toInt ≤ 1000000000) (hy : ¬ y = 0) : (x.toInt64 / y.toInt64).toInt = x.toInt.tdiv y.toInt := by
  obtain ⟨g1, g2, g3, g4, g5, g6, g7⟩ := qr_b (a := x.toInt) (i32_ne0 hy)
  rw [Int64.toInt_div, Int32.toInt_toInt64, Int32.toInt_toInt64]
  exact bm64 (by omega) (by omega)
theorem i64_rem {x y : Int32} (h1 : -1000000000 ≤ x.toInt ∧ x.toInt ≤ 1000000000) (hy : ¬ y = 0) : (x.toInt64 - x.toInt64 / y.toInt64 * y.toInt64).toInt = x.toInt.tmod y.toInt := by
  obtain ⟨g1, g2, g3, g4, g5, g6, g7⟩ := qr_b (a := x.toInt) (i32_ne0 hy)
  rw [Int64.toInt_sub, Int64.toInt_mul, i64_div h1 hy, Int32.toInt_toInt64, Int32.toInt_toInt64, bm64 (a := x.toInt.tdiv y.toInt * y.toInt) (by omega) (by omega), bm64 (by omega) (by omega)]
  omega
theorem i64_0 {z : Int64} : z = 0 ↔ z.toInt = 0 := ⟨fun h => by rw [h]; decide, fun h => Int64.toInt_inj.mp (by rw [h]; decide)⟩
theorem i64_neg {z : Int64} : z < 0 ↔ z.toInt < 0 := by
  rw [Int64.lt_iff_toInt_lt, show (0 : Int64).toInt = 0 by decide]
theorem i64_y0 {y : Int32} (hy : ¬ y = 0) : ¬ y.toInt64 = 0 := fun q => i32_ne0 hy (by have := i64_0.mp q; rw [Int32.toInt_toInt64] at this; exact this)
theorem r_down {x y : Int32} (h1 : -1000000000 ≤ x.toInt ∧ x.toInt ≤ 1000000000) (hy : ¬ y = 0) (hQ : ∀ z : Int64, z.toInt = x.toInt.tdiv y.toInt - qd x.toInt y.toInt → Q (.inl (some (.long z))) w 0 0) : zx dA d 0 0 M_VectorLanguageModel_down 0 (zargs 4 [.long x.toInt64, .long y.toInt64]) [] w 0 0 Q := by
  obtain ⟨g1, g2, g3, g4, g5, g6, g7⟩ := qr_b (a := x.toInt) (i32_ne0 hy)
  have hend0 : qd x.toInt y.toInt = 0 → Q (.inl (some (.long (x.toInt64 / y.toInt64 - (0 : Int32).toInt64)))) w 0 0 := fun h => hQ _ (by
    rw [h, Int64.toInt_sub, i64_div h1 hy, show ((0 : Int32).toInt64).toInt = 0 by decide]
    exact bm64 (by omega) (by omega))
  have hend1 : qd x.toInt y.toInt = 1 → Q (.inl (some (.long (x.toInt64 / y.toInt64 - (1 : Int32).toInt64)))) w 0 0 := fun h => hQ _ (by
    rw [h, Int64.toInt_sub, i64_div h1 hy, show ((1 : Int32).toInt64).toInt = 1 by decide]
    exact bm64 (by omega) (by omega))
  repeat refine z_i rfl rfl ?_
  refine z_dvl rfl (i64_y0 hy) ?_
  repeat refine z_i rfl rfl ?_
  refine z_dvl rfl (i64_y0 hy) ?_
  repeat refine z_i rfl rfl ?_
  refine z_b rfl rfl (fun h => ?_) (fun h => ?_)
  · replace h : x.toInt.tmod y.toInt = 0 := by
      have := i64_0.mp ((lg_cmp_eq _ _).mp h)
      rw [i64_rem h1 hy] at this
      exact this
    repeat refine z_i rfl rfl ?_
    refine z_retL rfl (Nat.zero_le _) (Nat.zero_le _) (hend0 ?_)
    unfold qd
    simp [h]
  · replace h : ¬ x.toInt.tmod y.toInt = 0 := fun q => h ((lg_cmp_eq _ _).mpr (i64_0.mpr (by rw [i64_rem h1 hy]; exact q)))
    repeat refine z_i rfl rfl ?_
    refine z_b rfl rfl (fun hx => ?_) (fun hx => ?_)
    · replace hx : ¬ x.toInt < 0 := by
        have := Int64.not_lt.mpr ((lg_cmp_ge _ _).mp hx)
        rw [i64_neg, Int32.toInt_toInt64] at this
        exact this
      repeat refine z_i rfl rfl ?_
      refine z_b rfl rfl (fun hz => ?_) (fun hz => ?_)
      · replace hz : ¬ y.toInt < 0 := by
          have := Int64.not_lt.mpr ((lg_cmp_ge _ _).mp hz)
          rw [i64_neg, Int32.toInt_toInt64] at this
          exact this
        repeat refine z_i rfl rfl ?_
        refine z_bt rfl rfl rfl ?_
        repeat refine z_i rfl rfl ?_
        refine z_retL rfl (Nat.zero_le _) (Nat.zero_le _) (hend0 ?_)
        unfold qd
        rw [if_pos (by omega)]
      · replace hz : y.toInt < 0 := by
          have := (Classical.not_not.mp (fun q => hz ((lg_cmp_ge _ _).mpr (Int64.not_lt.mp q))) : y.toInt64 < 0)
          rw [i64_neg, Int32.toInt_toInt64] at this
          exact this
        repeat refine z_i rfl rfl ?_
        refine z_j rfl ?_
        refine z_bf rfl rfl (show ¬ (0 : Int32) = 1 by decide) ?_
        repeat refine z_i rfl rfl ?_
        refine z_j rfl ?_
        repeat refine z_i rfl rfl ?_
        refine z_retL rfl (Nat.zero_le _) (Nat.zero_le _) (hend1 ?_)
        unfold qd
        rw [if_neg (by omega), if_neg h]
    · replace hx : x.toInt < 0 := by
        have := (Classical.not_not.mp (fun q => hx ((lg_cmp_ge _ _).mpr (Int64.not_lt.mp q))) : x.toInt64 < 0)
        rw [i64_neg, Int32.toInt_toInt64] at this
        exact this
      repeat refine z_i rfl rfl ?_
      refine z_j rfl ?_
      repeat refine z_i rfl rfl ?_
      refine z_b rfl rfl (fun hz => ?_) (fun hz => ?_)
      · replace hz : ¬ y.toInt < 0 := by
          have := Int64.not_lt.mpr ((lg_cmp_ge _ _).mp hz)
          rw [i64_neg, Int32.toInt_toInt64] at this
          exact this
        repeat refine z_i rfl rfl ?_
        refine z_bf rfl rfl (show ¬ (1 : Int32) = 0 by decide) ?_
        repeat refine z_i rfl rfl ?_
        refine z_j rfl ?_
        repeat refine z_i rfl rfl ?_
        refine z_retL rfl (Nat.zero_le _) (Nat.zero_le _) (hend1 ?_)
        unfold qd
        rw [if_neg (by omega), if_neg h]
      · replace hz : y.toInt < 0 := by
          have := (Classical.not_not.mp (fun q => hz ((lg_cmp_ge _ _).mpr (Int64.not_lt.mp q))) : y.toInt64 < 0)
          rw [i64_neg, Int32.toInt_toInt64] at this
          exact this
        repeat refine z_i rfl rfl ?_
        refine z_j rfl ?_
        refine z_bt rfl rfl rfl ?_
        repeat refine z_i rfl rfl ?_
        refine z_retL rfl (Nat.zero_le _) (Nat.zero_le _) (hend0 ?_)
        unfold qd
        rw [if_pos (by omega)]
theorem p_rng_of {z : Int64} {v : Int32} (h : z.toInt = v.toInt) (h1 : -1000000000 ≤ v.toInt) (h2 : v.toInt ≤ 1000000000) : p_rng z = v := by
  unfold p_rng
  rw [if_neg (fun q => by rw [Int64.lt_iff_toInt_lt, show (-1000000000 : Int64).toInt = -1000000000 by decide] at q; omega), if_pos (by rw [Int64.le_iff_toInt_le, show (1000000000 : Int64).toInt = 1000000000 by decide]; omega)]
  apply Int32.toInt_inj.mp
  rw [Int64.toInt_toInt32, h]
  exact bm32 (by omega) (by omega)
theorem r_arith {op x y : Int32} (hd : 1 ≤ d) (hop : ∃ o : Nat, o ≤ 4 ∧ op = nI o) (hx : okI x) (hy : okI y) (hQ : Q (.inl (some (.int (p_pair 6 op x y)))) w 0 0) : zx dA d 0 0 M_VectorLanguageModel_arithmetic 0 (zargs 5 [.int op, .int x, .int y]) [] w 0 0 Q := by
  have hna : p_pair 6 op x y = pNA → zx dA d 0 0 M_VectorLanguageModel_arithmetic 21 (zargs 5 [.int op, .int x, .int y]) [] w 0 0 Q := by
    intro h
    rw [h] at hQ
    repeat refine z_i rfl rfl ?_
    exact z_retI rfl (Nat.zero_le _) (Nat.zero_le _) hQ
  repeat refine z_i rfl rfl ?_
  refine z_b rfl rfl (fun h => hna ?_) (fun h => ?_)
  · replace h : x = pNA := h
    unfold p_pair
    rw [if_neg (by decide), if_pos h]
  replace h : ¬ x = pNA := h
  repeat refine z_i rfl rfl ?_
  refine z_b rfl rfl (fun h2 => hna ?_) (fun h2 => ?_)
  · replace h2 : y = pNA := h2
    unfold p_pair
    rw [if_neg (by decide), if_neg h, if_pos h2]
  replace h2 : ¬ y = pNA := h2
  have hx1 := okI_b hx h
  have hy1 := okI_b hy h2
  have hp : p_pair 6 op x y = p_calc op x y := by
    unfold p_pair
    rw [if_neg (by decide), if_neg h, if_neg h2, if_neg (by decide)]
  rw [hp] at hQ hna
  have hgo : (∀ o : Nat, 2 < o → o ≤ 4 → op = nI o → ¬ y = 0) → zx dA d 0 0 M_VectorLanguageModel_arithmetic 24 (zargs 5 [.int op, .int x, .int y]) [] w 0 0 Q := by
    intro hyz
    repeat refine z_i rfl rfl ?_
    obtain ⟨o, ho, rfl⟩ := hop
    have ho' : o = 0 ∨ o = 1 ∨ o = 2 ∨ o = 3 ∨ o = 4 := by omega
    rcases ho' with rfl | rfl | rfl | rfl | rfl
    · refine z_sw (t := 60) rfl (by decide) ?_
      repeat refine z_i rfl rfl ?_
      refine z_cSk [.long (x.toInt64 + y.toInt64)] [] 0 0 0 rfl rfl rfl (Nat.le_of_ble_eq_true rfl) (Nat.le_of_ble_eq_true rfl) (by omega) (by omega) (by omega) (r_limited dA 0 _ _ _ ⟨_, rfl, ?_⟩)
      exact z_retI rfl (Nat.zero_le _) (Nat.zero_le _) hQ
    · refine z_sw (t := 68) rfl (by decide) ?_
      repeat refine z_i rfl rfl ?_
      refine z_cSk [.long (x.toInt64 - y.toInt64)] [] 0 0 0 rfl rfl rfl (Nat.le_of_ble_eq_true rfl) (Nat.le_of_ble_eq_true rfl) (by omega) (by omega) (by omega) (r_limited dA 0 _ _ _ ⟨_, rfl, ?_⟩)
      exact z_retI rfl (Nat.zero_le _) (Nat.zero_le _) hQ
    · refine z_sw (t := 76) rfl (by decide) ?_
      repeat refine z_i rfl rfl ?_
      refine z_cSk [.long (x.toInt64 * y.toInt64)] [] 0 0 0 rfl rfl rfl (Nat.le_of_ble_eq_true rfl) (Nat.le_of_ble_eq_true rfl) (by omega) (by omega) (by omega) (r_limited dA 0 _ _ _ ⟨_, rfl, ?_⟩)
      exact z_retI rfl (Nat.zero_le _) (Nat.zero_le _) hQ
    · have hy0 := hyz 3 (by decide) (by decide) rfl
      refine z_sw (t := 84) rfl (by decide) ?_
      repeat refine z_i rfl rfl ?_
      refine z_cSk [.long x.toInt64, .long y.toInt64] [] 0 0 0 rfl rfl rfl (Nat.le_of_ble_eq_true rfl) (Nat.le_of_ble_eq_true rfl) (by omega) (by omega) (by omega) (r_down hx1 hy0 (fun z hz => ⟨_, rfl, ?_⟩))
      refine z_cSk [.long z] [] 0 0 0 rfl rfl rfl (Nat.le_of_ble_eq_true rfl) (Nat.le_of_ble_eq_true rfl) (by omega) (by omega) (by omega) (r_limited dA 0 _ _ _ ⟨_, rfl, ?_⟩)
      have hv := fdiv_v hx1 hy0
      have hb := fdiv_b hx1 (i32_ne0 hy0)
      have e : p_calc (nI 3) x y = p_rng z := by
        rw [p_rng_of (v := p_fdiv x y) (by rw [hz, hv]) (by omega) (by omega)]
        unfold p_calc p_calcL
        rw [if_neg (by decide), if_neg (by decide), if_neg (by decide), if_pos (by decide), if_neg hy0, p_rng_of (z := (p_fdiv x y).toInt64) (v := p_fdiv x y) (by rw [Int32.toInt_toInt64]) (by omega) (by omega)]
      rw [e] at hQ
      exact z_retI rfl (Nat.zero_le _) (Nat.zero_le _) hQ
    · have hy0 := hyz 4 (by decide) (by decide) rfl
      refine z_sw (t := 94) rfl (by decide) ?_
      repeat refine z_i rfl rfl ?_
      refine z_cSk [.long x.toInt64, .long y.toInt64] [.long x.toInt64] 0 0 0 rfl rfl rfl (Nat.le_of_ble_eq_true rfl) (Nat.le_of_ble_eq_true rfl) (by omega) (by omega) (by omega) (r_down hx1 hy0 (fun z hz => ⟨_, rfl, ?_⟩))
      repeat refine z_i rfl rfl ?_
      refine z_cSk [.long (x.toInt64 - z * y.toInt64)] [] 0 0 0 rfl rfl rfl (Nat.le_of_ble_eq_true rfl) (Nat.le_of_ble_eq_true rfl) (by omega) (by omega) (by omega) (r_limited dA 0 _ _ _ ⟨_, rfl, ?_⟩)
      have hv := fmod_v hx1 hy1 hy0
      have hb := fmod_b (a := x.toInt) hy1 (i32_ne0 hy0)
      obtain ⟨g1, g2, g3, g4, g5, g6, g7⟩ := qr_b (a := x.toInt) (i32_ne0 hy0)
      have hm : (x.toInt.tdiv y.toInt - qd x.toInt y.toInt) * y.toInt = x.toInt.tdiv y.toInt * y.toInt - qd x.toInt y.toInt * y.toInt := Int.sub_mul _ _ _
      have hq : qd x.toInt y.toInt * y.toInt = 0 ∨ qd x.toInt y.toInt * y.toInt = y.toInt := by
        unfold qd
        split
        · exact Or.inl (Int.zero_mul _)
        · split
          · exact Or.inl (Int.zero_mul _)
          · exact Or.inr (Int.one_mul _)
      have e : p_calc (nI 4) x y = p_rng (x.toInt64 - z * y.toInt64) := by
        rw [p_rng_of (v := p_fmod x y) (by
          rw [Int64.toInt_sub, Int64.toInt_mul, hz, Int32.toInt_toInt64, Int32.toInt_toInt64, hm, bm64 (a := x.toInt.tdiv y.toInt * y.toInt - qd x.toInt y.toInt * y.toInt) (by omega) (by omega), bm64 (by omega) (by omega), hv]
          omega) (by omega) (by omega)]
        unfold p_calc p_calcL
        rw [if_neg (by decide), if_neg (by decide), if_neg (by decide), if_neg (by decide), if_neg hy0, p_rng_of (z := (p_fmod x y).toInt64) (v := p_fmod x y) (by rw [Int32.toInt_toInt64]) (by omega) (by omega)]
      rw [e] at hQ
      exact z_retI rfl (Nat.zero_le _) (Nat.zero_le _) hQ
  repeat refine z_i rfl rfl ?_
  refine z_b rfl rfl (fun h3 => hgo ?_) (fun h3 => ?_)
  · intro o h4 h5 h6
    replace h3 : op ≤ nI 2 := h3
    rw [h6, nI_leI (by omega) (by omega)] at h3
    omega
  replace h3 : ¬ op ≤ nI 2 := h3
  repeat refine z_i rfl rfl ?_
  refine z_b rfl rfl (fun h4 => hgo (fun _ _ _ _ => h4)) (fun h4 => hna ?_)
  replace h4 : y = 0 := Classical.not_not.mp h4
  obtain ⟨o, ho, rfl⟩ := hop
  rw [nI_leI (by omega) (by omega)] at h3
  have ho' : o = 3 ∨ o = 4 := by omega
  unfold p_calc p_calcL
  rcases ho' with rfl | rfl
  · rw [if_neg (by decide), if_neg (by decide), if_neg (by decide), if_pos (by decide), if_pos h4]
    decide
  · rw [if_neg (by decide), if_neg (by decide), if_neg (by decide), if_neg (by decide), if_pos h4]
    decide
set_option maxRecDepth 20000 in
theorem r_cmpR {op x y : Int32} (hQ : Q (.inl (some (.int (p_pair 7 op x y)))) w 0 0) : zx dA d 0 0 M_VectorLanguageModel_compare 0 (zargs 3 [.int op, .int x, .int y]) [] w 0 0 Q := by
  have e : p_pair 7 op x y = if x = pNA then pNA else if y = pNA then pNA else p_cmp op x y := by
    unfold p_pair
    rw [if_neg (show ¬ (7 : Int32) = 8 by decide), if_pos (show (7 : Int32) = 7 from rfl)]
  rw [e] at hQ
  have e2 : p_cmp op x y = if op = 0 then (if x = y then 1 else 0) else if op = 1 then (if y ≤ x then 0 else 1) else if y < x then 0 else 1 := by
    unfold p_cmp
    by_cases h1 : x < y
    · have h2 : ¬ y ≤ x := Int32.not_le.mpr h1
      by_cases h3 : y < x
      · exact absurd (Int32.le_of_lt h3) h2
      · have h4 := Int32.not_lt.mp h3
        simp [h1, h2, h3, h4]
    · have h2 := Int32.not_lt.mp h1
      by_cases h3 : y < x
      · have h4 : ¬ x ≤ y := Int32.not_le.mpr h3
        simp [h1, h2, h3, h4]
      · have h4 := Int32.not_lt.mp h3
        simp [h1, h2, h3, h4]
  rw [e2] at hQ
  iterate 8
    all_goals try repeat refine z_i rfl rfl ?_
    all_goals try refine z_j rfl ?_
    all_goals first | refine z_b rfl rfl (fun h => ?_) (fun h => ?_) | skip
  all_goals try repeat refine z_i rfl rfl ?_
  all_goals refine z_retI rfl (Nat.zero_le _) (Nat.zero_le _) (z_val hQ ?_)
  all_goals simp_all
set_option maxRecDepth 20000 in
theorem r_logic {op x y : Int32} (hQ : Q (.inl (some (.int (p_pair 8 op x y)))) w 0 0) : zx dA d 0 0 M_VectorLanguageModel_logic 0 (zargs 5 [.int op, .int x, .int y]) [] w 0 0 Q := by
  have e : p_pair 8 op x y = if op = 0 then p_and x y else p_or x y := by
    unfold p_pair
    rw [if_pos (show (8 : Int32) = 8 from rfl)]
  rw [e] at hQ
  have key : ∀ (v3 v4 : Int32), (v3 = 0 ↔ p_tru x = 0 ∧ p_tru y = 0) → (v4 = 0 ↔ ¬ x = 0 ∧ ¬ y = 0) → zx dA d 0 0 M_VectorLanguageModel_logic 41 [some (.int op), some (.int x), some (.int y), some (.int v3), some (.int v4)] [] w 0 0 Q := by
    intro v3 v4 g3 g4
    unfold p_and p_or at hQ
    iterate 8
      all_goals try repeat refine z_i rfl rfl ?_
      all_goals try refine z_j rfl ?_
      all_goals first | refine z_b rfl rfl (fun h => ?_) (fun h => ?_) | skip
    all_goals try repeat refine z_i rfl rfl ?_
    all_goals refine z_retI rfl (Nat.zero_le _) (Nat.zero_le _) (z_val hQ ?_)
    all_goals simp_all
  have key2 : ∀ v3 : Int32, (v3 = 0 ↔ p_tru x = 0 ∧ p_tru y = 0) → zx dA d 0 0 M_VectorLanguageModel_logic 25 [some (.int op), some (.int x), some (.int y), none, none] [.int v3] w 0 0 Q := by
    intro v3 g3
    repeat refine z_i rfl rfl ?_
    refine z_b rfl rfl (fun h => ?_) (fun h => ?_)
    · replace h : x = 0 := h
      repeat refine z_i rfl rfl ?_
      refine z_j rfl ?_
      refine z_i rfl rfl ?_
      exact key v3 1 g3 (by simp [h])
    · replace h : ¬ x = 0 := h
      repeat refine z_i rfl rfl ?_
      refine z_b rfl rfl (fun h2 => ?_) (fun h2 => ?_)
      · replace h2 : ¬ y = 0 := h2
        refine z_i rfl rfl ?_
        refine z_i rfl rfl ?_
        exact key v3 0 g3 (by simp [h, h2])
      · replace h2 : y = 0 := Classical.not_not.mp h2
        repeat refine z_i rfl rfl ?_
        refine z_j rfl ?_
        refine z_i rfl rfl ?_
        exact key v3 1 g3 (by simp [h2])
  have ky : (p_tru x = 0) → zx dA d 0 0 M_VectorLanguageModel_logic 10 [some (.int op), some (.int x), some (.int y), none, none] [] w 0 0 Q := by
    intro hx
    repeat refine z_i rfl rfl ?_
    refine z_b rfl rfl (fun h => ?_) (fun h => ?_)
    · replace h : y = pNA := h
      refine z_i rfl rfl ?_
      exact key2 0 ⟨fun _ => ⟨hx, by simp [p_tru, h]⟩, fun _ => rfl⟩
    · replace h : ¬ y = pNA := h
      repeat refine z_i rfl rfl ?_
      refine z_b rfl rfl (fun h2 => ?_) (fun h2 => ?_)
      · replace h2 : y = 0 := h2
        refine z_i rfl rfl ?_
        exact key2 0 ⟨fun _ => ⟨hx, by simp [p_tru, h2]⟩, fun _ => rfl⟩
      · replace h2 : ¬ y = 0 := h2
        repeat refine z_i rfl rfl ?_
        refine z_j rfl ?_
        exact key2 1 (by simp [hx, h, h2, p_tru])
  repeat refine z_i rfl rfl ?_
  refine z_b rfl rfl (fun h => ky ?_) (fun h => ?_)
  · replace h : x = pNA := h
    simp [p_tru, h]
  · replace h : ¬ x = pNA := h
    repeat refine z_i rfl rfl ?_
    refine z_b rfl rfl (fun h2 => ?_) (fun h2 => ky ?_)
    · replace h2 : ¬ x = 0 := h2
      repeat refine z_i rfl rfl ?_
      refine z_j rfl ?_
      exact key2 1 (by simp [h, h2, p_tru])
    · replace h2 : x = 0 := Classical.not_not.mp h2
      simp [p_tru, h2]
end MN
