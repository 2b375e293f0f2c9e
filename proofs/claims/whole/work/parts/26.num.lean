/-! numbers: what floorDiv and floorMod answer, in range -/
section NUM
theorem i32_b (x : Int32) : -2147483648 ≤ x.toInt ∧ x.toInt < 2147483648 := ⟨Int32.le_toInt x, Int32.toInt_lt x⟩
theorem okI_b {x : Int32} (h : okI x) (hn : ¬ x = pNA) : -1000000000 ≤ x.toInt ∧ x.toInt ≤ 1000000000 := by
  rcases h with h | ⟨h1, h2⟩
  · exact absurd h hn
  · rw [Int32.le_iff_toInt_le, show (-1000000000 : Int32).toInt = -1000000000 by decide] at h1
    rw [Int32.le_iff_toInt_le, show (1000000000 : Int32).toInt = 1000000000 by decide] at h2
    exact ⟨h1, h2⟩
theorem okI_of {x : Int32} (h1 : -1000000000 ≤ x.toInt) (h2 : x.toInt ≤ 1000000000) : okI x := by
  refine Or.inr ⟨?_, ?_⟩
  · rw [Int32.le_iff_toInt_le, show (-1000000000 : Int32).toInt = -1000000000 by decide]; exact h1
  · rw [Int32.le_iff_toInt_le, show (1000000000 : Int32).toInt = 1000000000 by decide]; exact h2
theorem bm32 {a : Int} (h1 : -2147483648 ≤ a) (h2 : a < 2147483648) : a.bmod (2 ^ 32) = a := Int.bmod_eq_of_le (by omega) (by omega)
theorem bm64 {a : Int} (h1 : -9223372036854775808 ≤ a) (h2 : a < 9223372036854775808) : a.bmod (2 ^ 64) = a := Int.bmod_eq_of_le (by omega) (by omega)
/-- quotient and remainder towards 0, and how large they are -/
theorem qr_b {a b : Int} (hb : b ≠ 0) : a = a.tdiv b * b + a.tmod b ∧ (a.tdiv b).natAbs ≤ a.natAbs ∧ (a.tdiv b * b).natAbs ≤ a.natAbs ∧ (a.tmod b).natAbs < b.natAbs ∧ (2 ≤ b.natAbs → 2 * (a.tdiv b).natAbs ≤ a.natAbs) ∧ (0 ≤ a → 0 ≤ a.tmod b) ∧ (a ≤ 0 → a.tmod b ≤ 0) := by
  have hbn : 0 < b.natAbs := Int.natAbs_pos.mpr hb
  have h1 : (a.tdiv b).natAbs = a.natAbs / b.natAbs := Int.natAbs_tdiv a b
  have h2 : (a.tmod b).natAbs = a.natAbs % b.natAbs := Int.natAbs_tmod a b
  refine ⟨?_, ?_, ?_, ?_, ?_, ?_, ?_⟩
  · have := Int.tdiv_mul_add_tmod a b
    omega
  · rw [h1]; exact Nat.div_le_self _ _
  · rw [Int.natAbs_mul, h1]; exact Nat.div_mul_le_self _ _
  · rw [h2]; exact Nat.mod_lt _ hbn
  · intro h
    rw [h1]
    have h3 := Nat.div_mul_le_self a.natAbs b.natAbs
    have h4 : a.natAbs / b.natAbs * 2 ≤ a.natAbs / b.natAbs * b.natAbs := Nat.mul_le_mul_left _ h
    omega
  · intro h; exact Int.tmod_nonneg b h
  · intro h
    have := Int.tmod_nonneg b (show 0 ≤ -a by omega)
    rw [Int.neg_tmod] at this
    omega
theorem x_sign (x y : Int32) : (0 ≤ x ^^^ y) ↔ (x.toInt < 0 ↔ y.toInt < 0) := by
  have e : ∀ z : Int32, z.toInt < 0 ↔ z.toBitVec.msb = true := fun z => by
    show z.toBitVec.toInt < 0 ↔ _
    rw [BitVec.toInt_neg_iff, BitVec.msb_eq_decide]
    simp
    omega
  rw [Int32.le_iff_toInt_le]
  have h1 : ¬ (x ^^^ y).toInt < 0 ↔ (x ^^^ y).toBitVec.msb = false := by
    rw [e]
    simp
  have h2 : (x ^^^ y).toBitVec.msb = (x.toBitVec.msb ^^ y.toBitVec.msb) := by
    rw [Int32.toBitVec_xor, BitVec.msb_xor]
  show (0 : Int) ≤ _ ↔ _
  have h3 : (0 : Int) ≤ (x ^^^ y).toInt ↔ ¬ (x ^^^ y).toInt < 0 := by omega
  rw [h3, h1, h2, e x, e y]
  cases x.toBitVec.msb <;> cases y.toBitVec.msb <;> simp
theorem i32_div {x y : Int32} (h1 : -1000000000 ≤ x.toInt ∧ x.toInt ≤ 1000000000) (hy : y.toInt ≠ 0) : (x / y).toInt = x.toInt.tdiv y.toInt := by
  rw [Int32.toInt_div]
  have := (qr_b (a := x.toInt) hy).2.1
  exact bm32 (by omega) (by omega)
theorem i32_divmul {x y : Int32} (h1 : -1000000000 ≤ x.toInt ∧ x.toInt ≤ 1000000000) (hy : y.toInt ≠ 0) : (x / y * y).toInt = x.toInt.tdiv y.toInt * y.toInt := by
  rw [Int32.toInt_mul, i32_div h1 hy]
  have := (qr_b (a := x.toInt) hy).2.2.1
  exact bm32 (by omega) (by omega)
theorem i32_sub {x y : Int32} (h1 : -2147483648 ≤ x.toInt - y.toInt) (h2 : x.toInt - y.toInt < 2147483648) : (x - y).toInt = x.toInt - y.toInt := by
  rw [Int32.toInt_sub]
  exact bm32 h1 h2
theorem i32_add {x y : Int32} (h1 : -2147483648 ≤ x.toInt + y.toInt) (h2 : x.toInt + y.toInt < 2147483648) : (x + y).toInt = x.toInt + y.toInt := by
  rw [Int32.toInt_add]
  exact bm32 h1 h2
theorem i32_ne0 {y : Int32} (hy : ¬ y = 0) : y.toInt ≠ 0 := fun q => hy (Int32.toInt_inj.mp (q.trans (by decide)))
/-- one less where the signs differ and something remains -/
def qd (a b : Int) : Int := if (a < 0 ↔ b < 0) then 0 else if a.tmod b = 0 then 0 else 1
theorem fdiv_v {x y : Int32} (h1 : -1000000000 ≤ x.toInt ∧ x.toInt ≤ 1000000000) (hy : ¬ y = 0) : (p_fdiv x y).toInt = x.toInt.tdiv y.toInt - qd x.toInt y.toInt := by
  have hy0 := i32_ne0 hy
  obtain ⟨g1, g2, g3, g4, g5, g6, g7⟩ := qr_b (a := x.toInt) hy0
  unfold p_fdiv qd
  by_cases hs : (x.toInt < 0 ↔ y.toInt < 0)
  · rw [if_pos ((x_sign x y).mpr hs), if_pos hs, i32_div h1 hy0]
    omega
  · rw [if_neg (fun q => hs ((x_sign x y).mp q)), if_neg hs]
    by_cases hr : x.toInt.tmod y.toInt = 0
    · rw [if_pos hr, if_pos (Int32.toInt_inj.mp (by rw [i32_divmul h1 hy0]; omega)), i32_div h1 hy0]
      omega
    · rw [if_neg hr, if_neg (fun q => hr (by have := congrArg Int32.toInt q; rw [i32_divmul h1 hy0] at this; omega))]
      rw [i32_sub (by rw [i32_div h1 hy0, show (1 : Int32).toInt = 1 by decide]; omega) (by rw [i32_div h1 hy0, show (1 : Int32).toInt = 1 by decide]; omega), i32_div h1 hy0]
      rfl
theorem fmod_v {x y : Int32} (h1 : -1000000000 ≤ x.toInt ∧ x.toInt ≤ 1000000000) (h2 : -1000000000 ≤ y.toInt ∧ y.toInt ≤ 1000000000) (hy : ¬ y = 0) : (p_fmod x y).toInt = x.toInt.tmod y.toInt + qd x.toInt y.toInt * y.toInt := by
  have hy0 := i32_ne0 hy
  obtain ⟨g1, g2, g3, g4, g5, g6, g7⟩ := qr_b (a := x.toInt) hy0
  have hm : (x - x / y * y).toInt = x.toInt.tmod y.toInt := by
    rw [i32_sub (by rw [i32_divmul h1 hy0]; omega) (by rw [i32_divmul h1 hy0]; omega), i32_divmul h1 hy0]
    omega
  unfold p_fmod qd
  by_cases hs : (x.toInt < 0 ↔ y.toInt < 0)
  · rw [if_pos ((x_sign x y).mpr hs), if_pos hs, hm]
    omega
  · rw [if_neg (fun q => hs ((x_sign x y).mp q)), if_neg hs]
    by_cases hr : x.toInt.tmod y.toInt = 0
    · rw [if_pos hr, if_pos (Int32.toInt_inj.mp (by rw [hm, hr]; decide)), hm, hr]
      omega
    · rw [if_neg hr, if_neg (fun q => hr (by have := congrArg Int32.toInt q; rw [hm] at this; rw [this]; decide))]
      rw [i32_add (by rw [hm]; omega) (by rw [hm]; omega), hm]
      omega
theorem fdiv_b {a b : Int} (h1 : -1000000000 ≤ a ∧ a ≤ 1000000000) (hb : b ≠ 0) : -1000000000 ≤ a.tdiv b - qd a b ∧ a.tdiv b - qd a b ≤ 1000000000 := by
  obtain ⟨g1, g2, g3, g4, g5, g6, g7⟩ := qr_b (a := a) hb
  unfold qd
  split
  · omega
  · split
    · omega
    · have : 2 ≤ b.natAbs := by omega
      have := g5 this
      omega
theorem fmod_b {a b : Int} (h2 : -1000000000 ≤ b ∧ b ≤ 1000000000) (hb : b ≠ 0) : -1000000000 ≤ a.tmod b + qd a b * b ∧ a.tmod b + qd a b * b ≤ 1000000000 := by
  obtain ⟨g1, g2, g3, g4, g5, g6, g7⟩ := qr_b (a := a) hb
  unfold qd
  split
  · omega
  · split
    · omega
    · omega
theorem okI_pair {k op x y : Int32} (hx : okI x) (hy : okI y) : okI (p_pair k op x y) := by
  have b0 : okI 0 := Or.inr (by decide)
  have b1 : okI 1 := Or.inr (by decide)
  have bN : okI pNA := Or.inl rfl
  unfold p_pair
  split
  · split
    · unfold p_and
      repeat' split
      all_goals first | exact b0 | exact b1 | exact bN
    · unfold p_or
      repeat' split
      all_goals first | exact b0 | exact b1 | exact bN
  · split
    · exact bN
    · split
      · exact bN
      · rename_i hx0 hy0
        have hx1 := okI_b hx hx0
        have hy1 := okI_b hy hy0
        split
        · unfold p_cmp
          repeat' split
          all_goals first | exact b0 | exact b1
        · exact okI_rng _
/-- the distance of two numbers in range -/
theorem abs_v {x y : Int32} (hx : okI x) (hy : okI y) (hx0 : ¬ x = pNA) (hy0 : ¬ y = pNA) : (p_abs (y - x)).toInt = (y.toInt - x.toInt).natAbs ∧ (y - x).toInt = y.toInt - x.toInt := by
  have hx1 := okI_b hx hx0
  have hy1 := okI_b hy hy0
  have e : (y - x).toInt = y.toInt - x.toInt := i32_sub (by omega) (by omega)
  refine ⟨?_, e⟩
  unfold p_abs
  by_cases h : 0 ≤ y - x
  · rw [if_pos h, e]
    rw [Int32.le_iff_toInt_le, e, show (0 : Int32).toInt = 0 by decide] at h
    omega
  · rw [if_neg h]
    rw [Int32.le_iff_toInt_le, e, show (0 : Int32).toInt = 0 by decide] at h
    rw [Int32.toInt_neg, e, bm32 (by omega) (by omega)]
    omega
theorem okI_rg {x y : Int32} {c : Nat} (hx : okI x) (hy : okI y) (hx0 : ¬ x = pNA) (hy0 : ¬ y = pNA) (hc : p_abs (y - x) = nI c) (hc1 : c < 2 ^ 31) : ∀ j : Nat, j < c + 1 → okI (p_rg x y j) := by
  intro j hj
  have hx1 := okI_b hx hx0
  have hy1 := okI_b hy hy0
  obtain ⟨h1, h2⟩ := abs_v hx hy hx0 hy0
  rw [hc, nI_toInt hc1] at h1
  unfold p_rg
  split
  · rename_i h
    rw [Int32.lt_iff_toInt_lt] at h
    have e : (x - nI j).toInt = x.toInt - j := by rw [i32_sub (by rw [nI_toInt (by omega)]; omega) (by rw [nI_toInt (by omega)]; omega), nI_toInt (by omega)]
    exact okI_of (by omega) (by omega)
  · rename_i h
    rw [Int32.lt_iff_toInt_lt] at h
    have e : (x + nI j).toInt = x.toInt + j := by rw [i32_add (by rw [nI_toInt (by omega)]; omega) (by rw [nI_toInt (by omega)]; omega), nI_toInt (by omega)]
    exact okI_of (by omega) (by omega)
end NUM
