/-! the leaves: static methods of numbers, of the class and of the reference -/
abbrev pNA : Int32 := -2147483648
theorem pNA64 : pNA.toInt64 = -2147483648 := by decide
theorem z_val {Q : zQ} {a b : Int32} {w : ww_W} {k n : Nat} (hq : Q (.inl (some (.int a))) w k n) (e : a = b) : Q (.inl (some (.int b))) w k n := e ▸ hq
theorem z_valL {Q : zQ} {a b : Int64} {w : ww_W} {k n : Nat} (hq : Q (.inl (some (.long a))) w k n) (e : a = b) : Q (.inl (some (.long b))) w k n := e ▸ hq
theorem zswt_ne {x a : Int} {t d : Nat} {r : List (Int × Nat)} (h : ¬ x = a) : zswt ((a, t) :: r) d x = zswt r d x := if_neg h
def p_rng (x : Int64) : Int32 := if x < -1000000000 then pNA else if x ≤ 1000000000 then x.toInt32 else pNA
def p_not (x : Int32) : Int32 := if x = pNA then pNA else if x = 0 then 1 else 0
def p_and (x y : Int32) : Int32 := if x = 0 then 0 else if y = 0 then 0 else if x = pNA then pNA else if y = pNA then pNA else 1
def p_tru (x : Int32) : Int32 := if x = 0 then 0 else if x = pNA then 0 else 1
def p_or (x y : Int32) : Int32 := if p_tru x = 0 then (if p_tru y = 0 then (if x = pNA then pNA else if y = pNA then pNA else 0) else 1) else 1
def p_cmp (op x y : Int32) : Int32 := if op = 0 then (if x = y then 1 else 0) else if op = 1 then (if x < y then 1 else 0) else if x ≤ y then 1 else 0
def p_fdiv (x y : Int32) : Int32 := if 0 ≤ x ^^^ y then x / y else if x / y * y = x then x / y else x / y - 1
def p_fmod (x y : Int32) : Int32 := if 0 ≤ x ^^^ y then x - x / y * y else if x - x / y * y = 0 then x - x / y * y else x - x / y * y + y
def p_calcL (op x y : Int32) : Int64 := if op = 0 then x.toInt64 + y.toInt64 else if op = 1 then x.toInt64 - y.toInt64 else if op = 2 then x.toInt64 * y.toInt64 else if op = 3 then (if y = 0 then pNA.toInt64 else (p_fdiv x y).toInt64) else if y = 0 then pNA.toInt64 else (p_fmod x y).toInt64
def p_calc (op x y : Int32) : Int32 := p_rng (p_calcL op x y)
def p_pair (k op x y : Int32) : Int32 := if k = 8 then (if op = 0 then p_and x y else p_or x y) else if x = pNA then pNA else if y = pNA then pNA else if k = 7 then p_cmp op x y else p_calc op x y
def p_max (x y : Int32) : Int32 := if x < y then y else x
def p_min (x y : Int32) : Int32 := if y < x then y else x
def p_abs (x : Int32) : Int32 := if 0 ≤ x then x else -x
def p_var (x : Int32) : Int32 := if x < 0 then 0 else if 10 ≤ x then 0 else 1
def p_par (b x : Int32) : Int32 := if b < 0 then 0 else if 2 < b then 0 else if b = 0 then 1 else if x < 0 then 0 else if 10 - b < x then 0 else 1
def p_btw (v a b : Int32) : Int32 := if v < a then 0 else if b < v then 0 else 1
def p_down (a b : Int64) : Int64 := a / b - (if a - a / b * b = 0 then 0 else if a < 0 then (if b < 0 then 0 else 1) else if b < 0 then 1 else 0)
def p_arith (op x y : Int32) : Int32 := if x = pNA then pNA else if y = pNA then pNA else if 2 < op ∧ y = 0 then pNA else if op = 0 then p_rng (x.toInt64 + y.toInt64) else if op = 1 then p_rng (x.toInt64 - y.toInt64) else if op = 2 then p_rng (x.toInt64 * y.toInt64) else if op = 3 then p_rng (p_down x.toInt64 y.toInt64) else p_rng (x.toInt64 - p_down x.toInt64 y.toInt64 * y.toInt64)
def p_cmpR (op x y : Int32) : Int32 := if x = pNA then pNA else if y = pNA then pNA else p_cmp op x y
set_option maxRecDepth 20000 in
theorem r_inRange (dA : Nat → ClassId) (d : Nat) (x : Int64) (w : ww_W) : zpure dA d M_Elements_inRange 2 [.long (x)] w (some (.int (p_rng x))) := by
  intro Q hq
  refine z_i rfl rfl ?_
  refine z_i rfl rfl ?_
  refine z_i rfl rfl ?_
  refine z_b rfl rfl (fun h5_0 => ?_) (fun h5_0 => ?_)
  · replace h5_0 : (x) < (-1000000000) := (lg_cmp_lt _ _).mp h5_0
    refine z_i rfl rfl ?_
    refine z_j rfl ?_
    refine z_retI rfl (Nat.zero_le _) (Nat.zero_le _) (z_val hq ?_)
    first | (simp [p_rng, h5_0]; done) | (simp [pNA, p_rng, h5_0]; done) | (simp [p_rng, Int32.not_lt, Int32.not_le, Int64.not_lt, Int64.not_le, h5_0]; done) | (simp_all [p_rng, Int32.not_lt, Int32.not_le, Int64.not_lt, Int64.not_le]; done)
  · replace h5_0 : ¬ ((x) < (-1000000000)) := fun q => h5_0 ((lg_cmp_lt _ _).mpr q)
    refine z_i rfl rfl ?_
    refine z_i rfl rfl ?_
    refine z_i rfl rfl ?_
    refine z_b rfl rfl (fun h13_1 => ?_) (fun h13_1 => ?_)
    · replace h13_1 : (x) ≤ (1000000000) := (lg_cmp_le _ _).mp h13_1
      refine z_i rfl rfl ?_
      refine z_i rfl rfl ?_
      refine z_retI rfl (Nat.zero_le _) (Nat.zero_le _) (z_val hq ?_)
      first | (simp [p_rng, h5_0, h13_1]; done) | (simp [pNA, p_rng, h5_0, h13_1]; done) | (simp [p_rng, Int32.not_lt, Int32.not_le, Int64.not_lt, Int64.not_le, h5_0, h13_1]; done) | (simp_all [p_rng, Int32.not_lt, Int32.not_le, Int64.not_lt, Int64.not_le]; done)
    · replace h13_1 : ¬ ((x) ≤ (1000000000)) := fun q => h13_1 ((lg_cmp_le _ _).mpr q)
      refine z_i rfl rfl ?_
      refine z_j rfl ?_
      refine z_retI rfl (Nat.zero_le _) (Nat.zero_le _) (z_val hq ?_)
      first | (simp [p_rng, h5_0, h13_1]; done) | (simp [pNA, p_rng, h5_0, h13_1]; done) | (simp [p_rng, Int32.not_lt, Int32.not_le, Int64.not_lt, Int64.not_le, h5_0, h13_1]; done) | (simp_all [p_rng, Int32.not_lt, Int32.not_le, Int64.not_lt, Int64.not_le]; done)
set_option maxRecDepth 20000 in
theorem r_not (dA : Nat → ClassId) (d : Nat) (x : Int32) (w : ww_W) : zpure dA d M_Elements_not 1 [.int (x)] w (some (.int (p_not x))) := by
  intro Q hq
  refine z_i rfl rfl ?_
  refine z_i rfl rfl ?_
  refine z_b rfl rfl (fun h3_0 => ?_) (fun h3_0 => ?_)
  · replace h3_0 : ¬ (x) = (-2147483648) := h3_0
    refine z_i rfl rfl ?_
    refine z_b rfl rfl (fun h10_1 => ?_) (fun h10_1 => ?_)
    · replace h10_1 : ¬ (x) = 0 := h10_1
      refine z_i rfl rfl ?_
      refine z_retI rfl (Nat.zero_le _) (Nat.zero_le _) (z_val hq ?_)
      first | (simp [p_not, h3_0, h10_1]; done) | (simp [pNA, p_not, h3_0, h10_1]; done) | (simp [p_not, Int32.not_lt, Int32.not_le, Int64.not_lt, Int64.not_le, h3_0, h10_1]; done) | (simp_all [p_not, Int32.not_lt, Int32.not_le, Int64.not_lt, Int64.not_le]; done)
    · replace h10_1 : (x) = 0 := Classical.not_not.mp h10_1
      refine z_i rfl rfl ?_
      refine z_j rfl ?_
      refine z_retI rfl (Nat.zero_le _) (Nat.zero_le _) (z_val hq ?_)
      first | (simp [p_not, h3_0, h10_1]; done) | (simp [pNA, p_not, h3_0, h10_1]; done) | (simp [p_not, Int32.not_lt, Int32.not_le, Int64.not_lt, Int64.not_le, h3_0, h10_1]; done) | (simp_all [p_not, Int32.not_lt, Int32.not_le, Int64.not_lt, Int64.not_le]; done)
  · replace h3_0 : (x) = (-2147483648) := Classical.not_not.mp h3_0
    refine z_i rfl rfl ?_
    refine z_retI rfl (Nat.zero_le _) (Nat.zero_le _) (z_val hq ?_)
    first | (simp [p_not, h3_0]; done) | (simp [pNA, p_not, h3_0]; done) | (simp [p_not, Int32.not_lt, Int32.not_le, Int64.not_lt, Int64.not_le, h3_0]; done) | (simp_all [p_not, Int32.not_lt, Int32.not_le, Int64.not_lt, Int64.not_le]; done)
set_option maxRecDepth 20000 in
theorem r_and (dA : Nat → ClassId) (d : Nat) (x y : Int32) (w : ww_W) : zpure dA d M_Elements_and 2 [.int (x), .int (y)] w (some (.int (p_and x y))) := by
  intro Q hq
  refine z_i rfl rfl ?_
  refine z_b rfl rfl (fun h1_0 => ?_) (fun h1_0 => ?_)
  · replace h1_0 : (x) = 0 := h1_0
    refine z_i rfl rfl ?_
    refine z_retI rfl (Nat.zero_le _) (Nat.zero_le _) (z_val hq ?_)
    first | (simp [p_and, h1_0]; done) | (simp [pNA, p_and, h1_0]; done) | (simp [p_and, Int32.not_lt, Int32.not_le, Int64.not_lt, Int64.not_le, h1_0]; done) | (simp_all [p_and, Int32.not_lt, Int32.not_le, Int64.not_lt, Int64.not_le]; done)
  · replace h1_0 : ¬ ((x) = 0) := h1_0
    refine z_i rfl rfl ?_
    refine z_b rfl rfl (fun h5_1 => ?_) (fun h5_1 => ?_)
    · replace h5_1 : ¬ (y) = 0 := h5_1
      refine z_i rfl rfl ?_
      refine z_i rfl rfl ?_
      refine z_b rfl rfl (fun h13_2 => ?_) (fun h13_2 => ?_)
      · replace h13_2 : (x) = (-2147483648) := h13_2
        refine z_i rfl rfl ?_
        refine z_j rfl ?_
        refine z_retI rfl (Nat.zero_le _) (Nat.zero_le _) (z_val hq ?_)
        first | (simp [p_and, h1_0, h5_1, h13_2]; done) | (simp [pNA, p_and, h1_0, h5_1, h13_2]; done) | (simp [p_and, Int32.not_lt, Int32.not_le, Int64.not_lt, Int64.not_le, h1_0, h5_1, h13_2]; done) | (simp_all [p_and, Int32.not_lt, Int32.not_le, Int64.not_lt, Int64.not_le]; done)
      · replace h13_2 : ¬ ((x) = (-2147483648)) := h13_2
        refine z_i rfl rfl ?_
        refine z_i rfl rfl ?_
        refine z_b rfl rfl (fun h19_3 => ?_) (fun h19_3 => ?_)
        · replace h19_3 : ¬ (y) = (-2147483648) := h19_3
          refine z_i rfl rfl ?_
          refine z_retI rfl (Nat.zero_le _) (Nat.zero_le _) (z_val hq ?_)
          first | (simp [p_and, h1_0, h5_1, h13_2, h19_3]; done) | (simp [pNA, p_and, h1_0, h5_1, h13_2, h19_3]; done) | (simp [p_and, Int32.not_lt, Int32.not_le, Int64.not_lt, Int64.not_le, h1_0, h5_1, h13_2, h19_3]; done) | (simp_all [p_and, Int32.not_lt, Int32.not_le, Int64.not_lt, Int64.not_le]; done)
        · replace h19_3 : (y) = (-2147483648) := Classical.not_not.mp h19_3
          refine z_i rfl rfl ?_
          refine z_j rfl ?_
          refine z_retI rfl (Nat.zero_le _) (Nat.zero_le _) (z_val hq ?_)
          first | (simp [p_and, h1_0, h5_1, h13_2, h19_3]; done) | (simp [pNA, p_and, h1_0, h5_1, h13_2, h19_3]; done) | (simp [p_and, Int32.not_lt, Int32.not_le, Int64.not_lt, Int64.not_le, h1_0, h5_1, h13_2, h19_3]; done) | (simp_all [p_and, Int32.not_lt, Int32.not_le, Int64.not_lt, Int64.not_le]; done)
    · replace h5_1 : (y) = 0 := Classical.not_not.mp h5_1
      refine z_i rfl rfl ?_
      refine z_retI rfl (Nat.zero_le _) (Nat.zero_le _) (z_val hq ?_)
      first | (simp [p_and, h1_0, h5_1]; done) | (simp [pNA, p_and, h1_0, h5_1]; done) | (simp [p_and, Int32.not_lt, Int32.not_le, Int64.not_lt, Int64.not_le, h1_0, h5_1]; done) | (simp_all [p_and, Int32.not_lt, Int32.not_le, Int64.not_lt, Int64.not_le]; done)
set_option maxRecDepth 20000 in
theorem r_or (dA : Nat → ClassId) (d : Nat) (x y : Int32) (w : ww_W) : zpure dA d M_Elements_or 3 [.int (x), .int (y)] w (some (.int (p_or x y))) := by
  intro Q hq
  refine z_i rfl rfl ?_
  refine z_b rfl rfl (fun h1_0 => ?_) (fun h1_0 => ?_)
  · replace h1_0 : (x) = 0 := h1_0
    refine z_i rfl rfl ?_
    refine z_b rfl rfl (fun h11_1 => ?_) (fun h11_1 => ?_)
    · replace h11_1 : (y) = 0 := h11_1
      refine z_i rfl rfl ?_
      refine z_i rfl rfl ?_
      refine z_i rfl rfl ?_
      refine z_b rfl rfl (fun h27_2 => ?_) (fun h27_2 => ?_)
      rotate_left
      · exact absurd (show ¬ ((0 : Int32) = 0) from h27_2) (by decide)
      refine z_i rfl rfl ?_
      refine z_i rfl rfl ?_
      refine z_b rfl rfl (fun h35_2 => ?_) (fun h35_2 => ?_)
      · replace h35_2 : (x) = (-2147483648) := h35_2
        refine z_i rfl rfl ?_
        refine z_j rfl ?_
        refine z_retI rfl (Nat.zero_le _) (Nat.zero_le _) (z_val hq ?_)
        first | (simp [p_or, p_tru, h1_0, h11_1, h35_2]; done) | (simp [pNA, p_or, p_tru, h1_0, h11_1, h35_2]; done) | (simp [p_or, p_tru, Int32.not_lt, Int32.not_le, Int64.not_lt, Int64.not_le, h1_0, h11_1, h35_2]; done) | (simp_all [p_or, p_tru, Int32.not_lt, Int32.not_le, Int64.not_lt, Int64.not_le]; done)
      · replace h35_2 : ¬ ((x) = (-2147483648)) := h35_2
        refine z_i rfl rfl ?_
        refine z_i rfl rfl ?_
        refine z_b rfl rfl (fun h41_3 => ?_) (fun h41_3 => ?_)
        · replace h41_3 : ¬ (y) = (-2147483648) := h41_3
          refine z_i rfl rfl ?_
          refine z_retI rfl (Nat.zero_le _) (Nat.zero_le _) (z_val hq ?_)
          first | (simp [p_or, p_tru, h1_0, h11_1, h35_2, h41_3]; done) | (simp [pNA, p_or, p_tru, h1_0, h11_1, h35_2, h41_3]; done) | (simp [p_or, p_tru, Int32.not_lt, Int32.not_le, Int64.not_lt, Int64.not_le, h1_0, h11_1, h35_2, h41_3]; done) | (simp_all [p_or, p_tru, Int32.not_lt, Int32.not_le, Int64.not_lt, Int64.not_le]; done)
        · replace h41_3 : (y) = (-2147483648) := Classical.not_not.mp h41_3
          refine z_i rfl rfl ?_
          refine z_j rfl ?_
          refine z_retI rfl (Nat.zero_le _) (Nat.zero_le _) (z_val hq ?_)
          first | (simp [p_or, p_tru, h1_0, h11_1, h35_2, h41_3]; done) | (simp [pNA, p_or, p_tru, h1_0, h11_1, h35_2, h41_3]; done) | (simp [p_or, p_tru, Int32.not_lt, Int32.not_le, Int64.not_lt, Int64.not_le, h1_0, h11_1, h35_2, h41_3]; done) | (simp_all [p_or, p_tru, Int32.not_lt, Int32.not_le, Int64.not_lt, Int64.not_le]; done)
    · replace h11_1 : ¬ ((y) = 0) := h11_1
      refine z_i rfl rfl ?_
      refine z_i rfl rfl ?_
      refine z_b rfl rfl (fun h17_2 => ?_) (fun h17_2 => ?_)
      · replace h17_2 : (y) = (-2147483648) := h17_2
        refine z_i rfl rfl ?_
        refine z_i rfl rfl ?_
        refine z_i rfl rfl ?_
        refine z_b rfl rfl (fun h27_3 => ?_) (fun h27_3 => ?_)
        rotate_left
        · exact absurd (show ¬ ((0 : Int32) = 0) from h27_3) (by decide)
        refine z_i rfl rfl ?_
        refine z_i rfl rfl ?_
        refine z_b rfl rfl (fun h35_3 => ?_) (fun h35_3 => ?_)
        · replace h35_3 : (x) = (-2147483648) := h35_3
          refine z_i rfl rfl ?_
          refine z_j rfl ?_
          refine z_retI rfl (Nat.zero_le _) (Nat.zero_le _) (z_val hq ?_)
          first | (simp [p_or, p_tru, h1_0, h11_1, h17_2, h35_3]; done) | (simp [pNA, p_or, p_tru, h1_0, h11_1, h17_2, h35_3]; done) | (simp [p_or, p_tru, Int32.not_lt, Int32.not_le, Int64.not_lt, Int64.not_le, h1_0, h11_1, h17_2, h35_3]; done) | (simp_all [p_or, p_tru, Int32.not_lt, Int32.not_le, Int64.not_lt, Int64.not_le]; done)
        · replace h35_3 : ¬ ((x) = (-2147483648)) := h35_3
          refine z_i rfl rfl ?_
          refine z_i rfl rfl ?_
          refine z_b rfl rfl (fun h41_4 => ?_) (fun h41_4 => ?_)
          · replace h41_4 : ¬ (y) = (-2147483648) := h41_4
            refine z_i rfl rfl ?_
            refine z_retI rfl (Nat.zero_le _) (Nat.zero_le _) (z_val hq ?_)
            first | (simp [p_or, p_tru, h1_0, h11_1, h17_2, h35_3, h41_4]; done) | (simp [pNA, p_or, p_tru, h1_0, h11_1, h17_2, h35_3, h41_4]; done) | (simp [p_or, p_tru, Int32.not_lt, Int32.not_le, Int64.not_lt, Int64.not_le, h1_0, h11_1, h17_2, h35_3, h41_4]; done) | (simp_all [p_or, p_tru, Int32.not_lt, Int32.not_le, Int64.not_lt, Int64.not_le]; done)
          · replace h41_4 : (y) = (-2147483648) := Classical.not_not.mp h41_4
            refine z_i rfl rfl ?_
            refine z_j rfl ?_
            refine z_retI rfl (Nat.zero_le _) (Nat.zero_le _) (z_val hq ?_)
            first | (simp [p_or, p_tru, h1_0, h11_1, h17_2, h35_3, h41_4]; done) | (simp [pNA, p_or, p_tru, h1_0, h11_1, h17_2, h35_3, h41_4]; done) | (simp [p_or, p_tru, Int32.not_lt, Int32.not_le, Int64.not_lt, Int64.not_le, h1_0, h11_1, h17_2, h35_3, h41_4]; done) | (simp_all [p_or, p_tru, Int32.not_lt, Int32.not_le, Int64.not_lt, Int64.not_le]; done)
      · replace h17_2 : ¬ ((y) = (-2147483648)) := h17_2
        refine z_i rfl rfl ?_
        refine z_j rfl ?_
        refine z_i rfl rfl ?_
        refine z_i rfl rfl ?_
        refine z_b rfl rfl (fun h27_3 => ?_) (fun h27_3 => ?_)
        · exact absurd (show (1 : Int32) = 0 from h27_3) (by decide)
        refine z_i rfl rfl ?_
        refine z_retI rfl (Nat.zero_le _) (Nat.zero_le _) (z_val hq ?_)
        first | (simp [p_or, p_tru, h1_0, h11_1, h17_2]; done) | (simp [pNA, p_or, p_tru, h1_0, h11_1, h17_2]; done) | (simp [p_or, p_tru, Int32.not_lt, Int32.not_le, Int64.not_lt, Int64.not_le, h1_0, h11_1, h17_2]; done) | (simp_all [p_or, p_tru, Int32.not_lt, Int32.not_le, Int64.not_lt, Int64.not_le]; done)
  · replace h1_0 : ¬ ((x) = 0) := h1_0
    refine z_i rfl rfl ?_
    refine z_i rfl rfl ?_
    refine z_b rfl rfl (fun h7_1 => ?_) (fun h7_1 => ?_)
    · replace h7_1 : ¬ (x) = (-2147483648) := h7_1
      refine z_i rfl rfl ?_
      refine z_j rfl ?_
      refine z_i rfl rfl ?_
      refine z_i rfl rfl ?_
      refine z_b rfl rfl (fun h27_2 => ?_) (fun h27_2 => ?_)
      · exact absurd (show (1 : Int32) = 0 from h27_2) (by decide)
      refine z_i rfl rfl ?_
      refine z_retI rfl (Nat.zero_le _) (Nat.zero_le _) (z_val hq ?_)
      first | (simp [p_or, p_tru, h1_0, h7_1]; done) | (simp [pNA, p_or, p_tru, h1_0, h7_1]; done) | (simp [p_or, p_tru, Int32.not_lt, Int32.not_le, Int64.not_lt, Int64.not_le, h1_0, h7_1]; done) | (simp_all [p_or, p_tru, Int32.not_lt, Int32.not_le, Int64.not_lt, Int64.not_le]; done)
    · replace h7_1 : (x) = (-2147483648) := Classical.not_not.mp h7_1
      refine z_i rfl rfl ?_
      refine z_b rfl rfl (fun h11_2 => ?_) (fun h11_2 => ?_)
      · replace h11_2 : (y) = 0 := h11_2
        refine z_i rfl rfl ?_
        refine z_i rfl rfl ?_
        refine z_i rfl rfl ?_
        refine z_b rfl rfl (fun h27_3 => ?_) (fun h27_3 => ?_)
        rotate_left
        · exact absurd (show ¬ ((0 : Int32) = 0) from h27_3) (by decide)
        refine z_i rfl rfl ?_
        refine z_i rfl rfl ?_
        refine z_b rfl rfl (fun h35_3 => ?_) (fun h35_3 => ?_)
        · replace h35_3 : (x) = (-2147483648) := h35_3
          refine z_i rfl rfl ?_
          refine z_j rfl ?_
          refine z_retI rfl (Nat.zero_le _) (Nat.zero_le _) (z_val hq ?_)
          first | (simp [p_or, p_tru, h1_0, h7_1, h11_2, h35_3]; done) | (simp [pNA, p_or, p_tru, h1_0, h7_1, h11_2, h35_3]; done) | (simp [p_or, p_tru, Int32.not_lt, Int32.not_le, Int64.not_lt, Int64.not_le, h1_0, h7_1, h11_2, h35_3]; done) | (simp_all [p_or, p_tru, Int32.not_lt, Int32.not_le, Int64.not_lt, Int64.not_le]; done)
        · replace h35_3 : ¬ ((x) = (-2147483648)) := h35_3
          refine z_i rfl rfl ?_
          refine z_i rfl rfl ?_
          refine z_b rfl rfl (fun h41_4 => ?_) (fun h41_4 => ?_)
          · replace h41_4 : ¬ (y) = (-2147483648) := h41_4
            refine z_i rfl rfl ?_
            refine z_retI rfl (Nat.zero_le _) (Nat.zero_le _) (z_val hq ?_)
            first | (simp [p_or, p_tru, h1_0, h7_1, h11_2, h35_3, h41_4]; done) | (simp [pNA, p_or, p_tru, h1_0, h7_1, h11_2, h35_3, h41_4]; done) | (simp [p_or, p_tru, Int32.not_lt, Int32.not_le, Int64.not_lt, Int64.not_le, h1_0, h7_1, h11_2, h35_3, h41_4]; done) | (simp_all [p_or, p_tru, Int32.not_lt, Int32.not_le, Int64.not_lt, Int64.not_le]; done)
          · replace h41_4 : (y) = (-2147483648) := Classical.not_not.mp h41_4
            refine z_i rfl rfl ?_
            refine z_j rfl ?_
            refine z_retI rfl (Nat.zero_le _) (Nat.zero_le _) (z_val hq ?_)
            first | (simp [p_or, p_tru, h1_0, h7_1, h11_2, h35_3, h41_4]; done) | (simp [pNA, p_or, p_tru, h1_0, h7_1, h11_2, h35_3, h41_4]; done) | (simp [p_or, p_tru, Int32.not_lt, Int32.not_le, Int64.not_lt, Int64.not_le, h1_0, h7_1, h11_2, h35_3, h41_4]; done) | (simp_all [p_or, p_tru, Int32.not_lt, Int32.not_le, Int64.not_lt, Int64.not_le]; done)
      · replace h11_2 : ¬ ((y) = 0) := h11_2
        refine z_i rfl rfl ?_
        refine z_i rfl rfl ?_
        refine z_b rfl rfl (fun h17_3 => ?_) (fun h17_3 => ?_)
        · replace h17_3 : (y) = (-2147483648) := h17_3
          refine z_i rfl rfl ?_
          refine z_i rfl rfl ?_
          refine z_i rfl rfl ?_
          refine z_b rfl rfl (fun h27_4 => ?_) (fun h27_4 => ?_)
          rotate_left
          · exact absurd (show ¬ ((0 : Int32) = 0) from h27_4) (by decide)
          refine z_i rfl rfl ?_
          refine z_i rfl rfl ?_
          refine z_b rfl rfl (fun h35_4 => ?_) (fun h35_4 => ?_)
          · replace h35_4 : (x) = (-2147483648) := h35_4
            refine z_i rfl rfl ?_
            refine z_j rfl ?_
            refine z_retI rfl (Nat.zero_le _) (Nat.zero_le _) (z_val hq ?_)
            first | (simp [p_or, p_tru, h1_0, h7_1, h11_2, h17_3, h35_4]; done) | (simp [pNA, p_or, p_tru, h1_0, h7_1, h11_2, h17_3, h35_4]; done) | (simp [p_or, p_tru, Int32.not_lt, Int32.not_le, Int64.not_lt, Int64.not_le, h1_0, h7_1, h11_2, h17_3, h35_4]; done) | (simp_all [p_or, p_tru, Int32.not_lt, Int32.not_le, Int64.not_lt, Int64.not_le]; done)
          · replace h35_4 : ¬ ((x) = (-2147483648)) := h35_4
            refine z_i rfl rfl ?_
            refine z_i rfl rfl ?_
            refine z_b rfl rfl (fun h41_5 => ?_) (fun h41_5 => ?_)
            · replace h41_5 : ¬ (y) = (-2147483648) := h41_5
              refine z_i rfl rfl ?_
              refine z_retI rfl (Nat.zero_le _) (Nat.zero_le _) (z_val hq ?_)
              first | (simp [p_or, p_tru, h1_0, h7_1, h11_2, h17_3, h35_4, h41_5]; done) | (simp [pNA, p_or, p_tru, h1_0, h7_1, h11_2, h17_3, h35_4, h41_5]; done) | (simp [p_or, p_tru, Int32.not_lt, Int32.not_le, Int64.not_lt, Int64.not_le, h1_0, h7_1, h11_2, h17_3, h35_4, h41_5]; done) | (simp_all [p_or, p_tru, Int32.not_lt, Int32.not_le, Int64.not_lt, Int64.not_le]; done)
            · replace h41_5 : (y) = (-2147483648) := Classical.not_not.mp h41_5
              refine z_i rfl rfl ?_
              refine z_j rfl ?_
              refine z_retI rfl (Nat.zero_le _) (Nat.zero_le _) (z_val hq ?_)
              first | (simp [p_or, p_tru, h1_0, h7_1, h11_2, h17_3, h35_4, h41_5]; done) | (simp [pNA, p_or, p_tru, h1_0, h7_1, h11_2, h17_3, h35_4, h41_5]; done) | (simp [p_or, p_tru, Int32.not_lt, Int32.not_le, Int64.not_lt, Int64.not_le, h1_0, h7_1, h11_2, h17_3, h35_4, h41_5]; done) | (simp_all [p_or, p_tru, Int32.not_lt, Int32.not_le, Int64.not_lt, Int64.not_le]; done)
        · replace h17_3 : ¬ ((y) = (-2147483648)) := h17_3
          refine z_i rfl rfl ?_
          refine z_j rfl ?_
          refine z_i rfl rfl ?_
          refine z_i rfl rfl ?_
          refine z_b rfl rfl (fun h27_4 => ?_) (fun h27_4 => ?_)
          · exact absurd (show (1 : Int32) = 0 from h27_4) (by decide)
          refine z_i rfl rfl ?_
          refine z_retI rfl (Nat.zero_le _) (Nat.zero_le _) (z_val hq ?_)
          first | (simp [p_or, p_tru, h1_0, h7_1, h11_2, h17_3]; done) | (simp [pNA, p_or, p_tru, h1_0, h7_1, h11_2, h17_3]; done) | (simp [p_or, p_tru, Int32.not_lt, Int32.not_le, Int64.not_lt, Int64.not_le, h1_0, h7_1, h11_2, h17_3]; done) | (simp_all [p_or, p_tru, Int32.not_lt, Int32.not_le, Int64.not_lt, Int64.not_le]; done)
set_option maxRecDepth 20000 in
theorem r_compare (dA : Nat → ClassId) (d : Nat) (op x y : Int32) (w : ww_W) : zpure dA d M_Elements_compare 3 [.int (op), .int (x), .int (y)] w (some (.int (p_cmp op x y))) := by
  intro Q hq
  refine z_i rfl rfl ?_
  by_cases s1_0_0 : (op) = (0 : Int32)
  · refine z_sw rfl (t := 28) (by rw [s1_0_0]; rfl) ?_
    refine z_i rfl rfl ?_
    refine z_i rfl rfl ?_
    refine z_b rfl rfl (fun h30_1 => ?_) (fun h30_1 => ?_)
    · replace h30_1 : ¬ (x) = (y) := h30_1
      refine z_i rfl rfl ?_
      refine z_retI rfl (Nat.zero_le _) (Nat.zero_le _) (z_val hq ?_)
      first | (simp [p_cmp, s1_0_0, h30_1]; done) | (simp [pNA, p_cmp, s1_0_0, h30_1]; done) | (simp [p_cmp, Int32.not_lt, Int32.not_le, Int64.not_lt, Int64.not_le, s1_0_0, h30_1]; done) | (simp_all [p_cmp, Int32.not_lt, Int32.not_le, Int64.not_lt, Int64.not_le]; done)
    · replace h30_1 : (x) = (y) := Classical.not_not.mp h30_1
      refine z_i rfl rfl ?_
      refine z_j rfl ?_
      refine z_retI rfl (Nat.zero_le _) (Nat.zero_le _) (z_val hq ?_)
      first | (simp [p_cmp, s1_0_0, h30_1]; done) | (simp [pNA, p_cmp, s1_0_0, h30_1]; done) | (simp [p_cmp, Int32.not_lt, Int32.not_le, Int64.not_lt, Int64.not_le, s1_0_0, h30_1]; done) | (simp_all [p_cmp, Int32.not_lt, Int32.not_le, Int64.not_lt, Int64.not_le]; done)
  by_cases s1_1_0 : (op) = (1 : Int32)
  · refine z_sw rfl (t := 39) (by rw [zswt_ne (lv_neT s1_0_0 (by decide))]; rw [s1_1_0]; rfl) ?_
    refine z_i rfl rfl ?_
    refine z_i rfl rfl ?_
    refine z_b rfl rfl (fun h41_2 => ?_) (fun h41_2 => ?_)
    · replace h41_2 : (y) ≤ (x) := h41_2
      refine z_i rfl rfl ?_
      refine z_retI rfl (Nat.zero_le _) (Nat.zero_le _) (z_val hq ?_)
      first | (simp [p_cmp, s1_0_0, s1_1_0, h41_2]; done) | (simp [pNA, p_cmp, s1_0_0, s1_1_0, h41_2]; done) | (simp [p_cmp, Int32.not_lt, Int32.not_le, Int64.not_lt, Int64.not_le, s1_0_0, s1_1_0, h41_2]; done) | (simp_all [p_cmp, Int32.not_lt, Int32.not_le, Int64.not_lt, Int64.not_le]; done)
    · replace h41_2 : ¬ ((y) ≤ (x)) := h41_2
      refine z_i rfl rfl ?_
      refine z_j rfl ?_
      refine z_retI rfl (Nat.zero_le _) (Nat.zero_le _) (z_val hq ?_)
      first | (simp [p_cmp, s1_0_0, s1_1_0, h41_2]; done) | (simp [pNA, p_cmp, s1_0_0, s1_1_0, h41_2]; done) | (simp [p_cmp, Int32.not_lt, Int32.not_le, Int64.not_lt, Int64.not_le, s1_0_0, s1_1_0, h41_2]; done) | (simp_all [p_cmp, Int32.not_lt, Int32.not_le, Int64.not_lt, Int64.not_le]; done)
  refine z_sw rfl (t := 50) (by rw [zswt_ne (lv_neT s1_0_0 (by decide))]; rw [zswt_ne (lv_neT s1_1_0 (by decide))]; rfl) ?_
  refine z_i rfl rfl ?_
  refine z_i rfl rfl ?_
  refine z_b rfl rfl (fun h52_2 => ?_) (fun h52_2 => ?_)
  · replace h52_2 : (y) < (x) := h52_2
    refine z_i rfl rfl ?_
    refine z_retI rfl (Nat.zero_le _) (Nat.zero_le _) (z_val hq ?_)
    first | (simp [p_cmp, s1_0_0, s1_1_0, h52_2]; done) | (simp [pNA, p_cmp, s1_0_0, s1_1_0, h52_2]; done) | (simp [p_cmp, Int32.not_lt, Int32.not_le, Int64.not_lt, Int64.not_le, s1_0_0, s1_1_0, h52_2]; done) | (simp_all [p_cmp, Int32.not_lt, Int32.not_le, Int64.not_lt, Int64.not_le]; done)
  · replace h52_2 : ¬ ((y) < (x)) := h52_2
    refine z_i rfl rfl ?_
    refine z_j rfl ?_
    refine z_retI rfl (Nat.zero_le _) (Nat.zero_le _) (z_val hq ?_)
    first | (simp [p_cmp, s1_0_0, s1_1_0, h52_2]; done) | (simp [pNA, p_cmp, s1_0_0, s1_1_0, h52_2]; done) | (simp [p_cmp, Int32.not_lt, Int32.not_le, Int64.not_lt, Int64.not_le, s1_0_0, s1_1_0, h52_2]; done) | (simp_all [p_cmp, Int32.not_lt, Int32.not_le, Int64.not_lt, Int64.not_le]; done)
set_option maxRecDepth 20000 in
theorem r_floorDiv (dA : Nat → ClassId) (d : Nat) (x y : Int32) (w : ww_W) (hdiv : ¬ y = 0) : zpure dA d M_Math_floorDiv 3 [.int (x), .int (y)] w (some (.int (p_fdiv x y))) := by
  intro Q hq
  refine z_i rfl rfl ?_
  refine z_i rfl rfl ?_
  refine z_dv rfl hdiv ?_
  refine z_i rfl rfl ?_
  refine z_i rfl rfl ?_
  refine z_i rfl rfl ?_
  refine z_i rfl rfl ?_
  refine z_b rfl rfl (fun h7_0 => ?_) (fun h7_0 => ?_)
  · replace h7_0 : 0 ≤ ((x) ^^^ (y)) := h7_0
    refine z_i rfl rfl ?_
    refine z_retI rfl (Nat.zero_le _) (Nat.zero_le _) (z_val hq ?_)
    first | (simp [p_fdiv, h7_0]; done) | (simp [pNA, p_fdiv, h7_0]; done) | (simp [p_fdiv, Int32.not_lt, Int32.not_le, Int64.not_lt, Int64.not_le, h7_0]; done) | (simp_all [p_fdiv, Int32.not_lt, Int32.not_le, Int64.not_lt, Int64.not_le]; done)
  · replace h7_0 : ¬ (0 ≤ ((x) ^^^ (y))) := h7_0
    refine z_i rfl rfl ?_
    refine z_i rfl rfl ?_
    refine z_i rfl rfl ?_
    refine z_i rfl rfl ?_
    refine z_b rfl rfl (fun h14_1 => ?_) (fun h14_1 => ?_)
    · replace h14_1 : (((x) / (y)) * (y)) = (x) := h14_1
      refine z_i rfl rfl ?_
      refine z_retI rfl (Nat.zero_le _) (Nat.zero_le _) (z_val hq ?_)
      first | (simp [p_fdiv, h7_0, h14_1]; done) | (simp [pNA, p_fdiv, h7_0, h14_1]; done) | (simp [p_fdiv, Int32.not_lt, Int32.not_le, Int64.not_lt, Int64.not_le, h7_0, h14_1]; done) | (simp_all [p_fdiv, Int32.not_lt, Int32.not_le, Int64.not_lt, Int64.not_le]; done)
    · replace h14_1 : ¬ ((((x) / (y)) * (y)) = (x)) := h14_1
      refine z_i rfl rfl ?_
      refine z_i rfl rfl ?_
      refine z_i rfl rfl ?_
      refine z_retI rfl (Nat.zero_le _) (Nat.zero_le _) (z_val hq ?_)
      first | (simp [p_fdiv, h7_0, h14_1]; done) | (simp [pNA, p_fdiv, h7_0, h14_1]; done) | (simp [p_fdiv, Int32.not_lt, Int32.not_le, Int64.not_lt, Int64.not_le, h7_0, h14_1]; done) | (simp_all [p_fdiv, Int32.not_lt, Int32.not_le, Int64.not_lt, Int64.not_le]; done)
set_option maxRecDepth 20000 in
theorem r_floorMod (dA : Nat → ClassId) (d : Nat) (x y : Int32) (w : ww_W) (hdiv : ¬ y = 0) : zpure dA d M_Math_floorMod 3 [.int (x), .int (y)] w (some (.int (p_fmod x y))) := by
  intro Q hq
  refine z_i rfl rfl ?_
  refine z_i rfl rfl ?_
  refine z_dv rfl hdiv ?_
  refine z_i rfl rfl ?_
  refine z_i rfl rfl ?_
  refine z_i rfl rfl ?_
  refine z_i rfl rfl ?_
  refine z_b rfl rfl (fun h7_0 => ?_) (fun h7_0 => ?_)
  · replace h7_0 : 0 ≤ ((x) ^^^ (y)) := h7_0
    refine z_i rfl rfl ?_
    refine z_retI rfl (Nat.zero_le _) (Nat.zero_le _) (z_val hq ?_)
    first | (simp [p_fmod, h7_0]; done) | (simp [pNA, p_fmod, h7_0]; done) | (simp [p_fmod, Int32.not_lt, Int32.not_le, Int64.not_lt, Int64.not_le, h7_0]; done) | (simp_all [p_fmod, Int32.not_lt, Int32.not_le, Int64.not_lt, Int64.not_le]; done)
  · replace h7_0 : ¬ (0 ≤ ((x) ^^^ (y))) := h7_0
    refine z_i rfl rfl ?_
    refine z_b rfl rfl (fun h11_1 => ?_) (fun h11_1 => ?_)
    · replace h11_1 : ((x) - (x) / (y) * (y)) = 0 := h11_1
      refine z_i rfl rfl ?_
      refine z_retI rfl (Nat.zero_le _) (Nat.zero_le _) (z_val hq ?_)
      first | (simp [p_fmod, h7_0, h11_1]; done) | (simp [pNA, p_fmod, h7_0, h11_1]; done) | (simp [p_fmod, Int32.not_lt, Int32.not_le, Int64.not_lt, Int64.not_le, h7_0, h11_1]; done) | (simp_all [p_fmod, Int32.not_lt, Int32.not_le, Int64.not_lt, Int64.not_le]; done)
    · replace h11_1 : ¬ (((x) - (x) / (y) * (y)) = 0) := h11_1
      refine z_i rfl rfl ?_
      refine z_i rfl rfl ?_
      refine z_i rfl rfl ?_
      refine z_retI rfl (Nat.zero_le _) (Nat.zero_le _) (z_val hq ?_)
      first | (simp [p_fmod, h7_0, h11_1]; done) | (simp [pNA, p_fmod, h7_0, h11_1]; done) | (simp [p_fmod, Int32.not_lt, Int32.not_le, Int64.not_lt, Int64.not_le, h7_0, h11_1]; done) | (simp_all [p_fmod, Int32.not_lt, Int32.not_le, Int64.not_lt, Int64.not_le]; done)
set_option maxRecDepth 20000 in
theorem r_max (dA : Nat → ClassId) (d : Nat) (x y : Int32) (w : ww_W) : zpure dA d M_Math_max 2 [.int (x), .int (y)] w (some (.int (p_max x y))) := by
  intro Q hq
  refine z_i rfl rfl ?_
  refine z_i rfl rfl ?_
  refine z_b rfl rfl (fun h2_0 => ?_) (fun h2_0 => ?_)
  · replace h2_0 : (x) < (y) := h2_0
    refine z_i rfl rfl ?_
    refine z_retI rfl (Nat.zero_le _) (Nat.zero_le _) (z_val hq ?_)
    first | (simp [p_max, h2_0]; done) | (simp [pNA, p_max, h2_0]; done) | (simp [p_max, Int32.not_lt, Int32.not_le, Int64.not_lt, Int64.not_le, h2_0]; done) | (simp_all [p_max, Int32.not_lt, Int32.not_le, Int64.not_lt, Int64.not_le]; done)
  · replace h2_0 : ¬ ((x) < (y)) := h2_0
    refine z_i rfl rfl ?_
    refine z_j rfl ?_
    refine z_retI rfl (Nat.zero_le _) (Nat.zero_le _) (z_val hq ?_)
    first | (simp [p_max, h2_0]; done) | (simp [pNA, p_max, h2_0]; done) | (simp [p_max, Int32.not_lt, Int32.not_le, Int64.not_lt, Int64.not_le, h2_0]; done) | (simp_all [p_max, Int32.not_lt, Int32.not_le, Int64.not_lt, Int64.not_le]; done)
set_option maxRecDepth 20000 in
theorem r_min (dA : Nat → ClassId) (d : Nat) (x y : Int32) (w : ww_W) : zpure dA d M_Math_min 2 [.int (x), .int (y)] w (some (.int (p_min x y))) := by
  intro Q hq
  refine z_i rfl rfl ?_
  refine z_i rfl rfl ?_
  refine z_b rfl rfl (fun h2_0 => ?_) (fun h2_0 => ?_)
  · replace h2_0 : (y) < (x) := h2_0
    refine z_i rfl rfl ?_
    refine z_retI rfl (Nat.zero_le _) (Nat.zero_le _) (z_val hq ?_)
    first | (simp [p_min, h2_0]; done) | (simp [pNA, p_min, h2_0]; done) | (simp [p_min, Int32.not_lt, Int32.not_le, Int64.not_lt, Int64.not_le, h2_0]; done) | (simp_all [p_min, Int32.not_lt, Int32.not_le, Int64.not_lt, Int64.not_le]; done)
  · replace h2_0 : ¬ ((y) < (x)) := h2_0
    refine z_i rfl rfl ?_
    refine z_j rfl ?_
    refine z_retI rfl (Nat.zero_le _) (Nat.zero_le _) (z_val hq ?_)
    first | (simp [p_min, h2_0]; done) | (simp [pNA, p_min, h2_0]; done) | (simp [p_min, Int32.not_lt, Int32.not_le, Int64.not_lt, Int64.not_le, h2_0]; done) | (simp_all [p_min, Int32.not_lt, Int32.not_le, Int64.not_lt, Int64.not_le]; done)
set_option maxRecDepth 20000 in
theorem r_abs (dA : Nat → ClassId) (d : Nat) (x : Int32) (w : ww_W) : zpure dA d M_Math_abs 1 [.int (x)] w (some (.int (p_abs x))) := by
  intro Q hq
  refine z_i rfl rfl ?_
  refine z_b rfl rfl (fun h1_0 => ?_) (fun h1_0 => ?_)
  · replace h1_0 : 0 ≤ (x) := h1_0
    refine z_i rfl rfl ?_
    refine z_retI rfl (Nat.zero_le _) (Nat.zero_le _) (z_val hq ?_)
    first | (simp [p_abs, h1_0]; done) | (simp [pNA, p_abs, h1_0]; done) | (simp [p_abs, Int32.not_lt, Int32.not_le, Int64.not_lt, Int64.not_le, h1_0]; done) | (simp_all [p_abs, Int32.not_lt, Int32.not_le, Int64.not_lt, Int64.not_le]; done)
  · replace h1_0 : ¬ (0 ≤ (x)) := h1_0
    refine z_i rfl rfl ?_
    refine z_i rfl rfl ?_
    refine z_j rfl ?_
    refine z_retI rfl (Nat.zero_le _) (Nat.zero_le _) (z_val hq ?_)
    first | (simp [p_abs, h1_0]; done) | (simp [pNA, p_abs, h1_0]; done) | (simp [p_abs, Int32.not_lt, Int32.not_le, Int64.not_lt, Int64.not_le, h1_0]; done) | (simp_all [p_abs, Int32.not_lt, Int32.not_le, Int64.not_lt, Int64.not_le]; done)
set_option maxRecDepth 20000 in
theorem r_calculate (dA : Nat → ClassId) (d : Nat) (hd : 1 ≤ d) (op x y : Int32) (w : ww_W) : zpure dA d M_Elements_calculate 3 [.int (op), .int (x), .int (y)] w (some (.long (p_calcL op x y))) := by
  intro Q hq
  refine z_i rfl rfl ?_
  by_cases s1_0_0 : (op) = (0 : Int32)
  · refine z_sw rfl (t := 32) (by rw [s1_0_0]; rfl) ?_
    refine z_i rfl rfl ?_
    refine z_i rfl rfl ?_
    refine z_i rfl rfl ?_
    refine z_i rfl rfl ?_
    refine z_i rfl rfl ?_
    refine z_retL rfl (Nat.zero_le _) (Nat.zero_le _) (z_valL hq ?_)
    first | (simp [p_calcL, pNA64, s1_0_0]; done) | (simp [pNA, p_calcL, pNA64, s1_0_0]; done) | (simp [p_calcL, pNA64, Int32.not_lt, Int32.not_le, Int64.not_lt, Int64.not_le, s1_0_0]; done) | (simp_all [p_calcL, pNA64, Int32.not_lt, Int32.not_le, Int64.not_lt, Int64.not_le]; done)
  by_cases s1_1_0 : (op) = (1 : Int32)
  · refine z_sw rfl (t := 38) (by rw [zswt_ne (lv_neT s1_0_0 (by decide))]; rw [s1_1_0]; rfl) ?_
    refine z_i rfl rfl ?_
    refine z_i rfl rfl ?_
    refine z_i rfl rfl ?_
    refine z_i rfl rfl ?_
    refine z_i rfl rfl ?_
    refine z_retL rfl (Nat.zero_le _) (Nat.zero_le _) (z_valL hq ?_)
    first | (simp [p_calcL, pNA64, s1_0_0, s1_1_0]; done) | (simp [pNA, p_calcL, pNA64, s1_0_0, s1_1_0]; done) | (simp [p_calcL, pNA64, Int32.not_lt, Int32.not_le, Int64.not_lt, Int64.not_le, s1_0_0, s1_1_0]; done) | (simp_all [p_calcL, pNA64, Int32.not_lt, Int32.not_le, Int64.not_lt, Int64.not_le]; done)
  by_cases s1_2_0 : (op) = (2 : Int32)
  · refine z_sw rfl (t := 44) (by rw [zswt_ne (lv_neT s1_0_0 (by decide))]; rw [zswt_ne (lv_neT s1_1_0 (by decide))]; rw [s1_2_0]; rfl) ?_
    refine z_i rfl rfl ?_
    refine z_i rfl rfl ?_
    refine z_i rfl rfl ?_
    refine z_i rfl rfl ?_
    refine z_i rfl rfl ?_
    refine z_retL rfl (Nat.zero_le _) (Nat.zero_le _) (z_valL hq ?_)
    first | (simp [p_calcL, pNA64, s1_0_0, s1_1_0, s1_2_0]; done) | (simp [pNA, p_calcL, pNA64, s1_0_0, s1_1_0, s1_2_0]; done) | (simp [p_calcL, pNA64, Int32.not_lt, Int32.not_le, Int64.not_lt, Int64.not_le, s1_0_0, s1_1_0, s1_2_0]; done) | (simp_all [p_calcL, pNA64, Int32.not_lt, Int32.not_le, Int64.not_lt, Int64.not_le]; done)
  by_cases s1_3_0 : (op) = (3 : Int32)
  · refine z_sw rfl (t := 50) (by rw [zswt_ne (lv_neT s1_0_0 (by decide))]; rw [zswt_ne (lv_neT s1_1_0 (by decide))]; rw [zswt_ne (lv_neT s1_2_0 (by decide))]; rw [s1_3_0]; rfl) ?_
    refine z_i rfl rfl ?_
    refine z_b rfl rfl (fun h51_4 => ?_) (fun h51_4 => ?_)
    · replace h51_4 : ¬ (y) = 0 := h51_4
      refine z_i rfl rfl ?_
      refine z_i rfl rfl ?_
      refine z_cSp [.int (x), .int (y)] [] 0 rfl (r_floorDiv dA 0 (x) (y) _ (by assumption)) rfl rfl (Nat.le_of_ble_eq_true rfl) (Nat.le_of_ble_eq_true rfl) (by omega) (Nat.zero_le _) (Nat.zero_le _) ?_
      show zx dA _ 0 0 _ 65 _ (.int (p_fdiv (x) (y)) :: []) _ _ _ _
      refine z_i rfl rfl ?_
      refine z_retL rfl (Nat.zero_le _) (Nat.zero_le _) (z_valL hq ?_)
      first | (simp [p_calcL, pNA64, s1_0_0, s1_1_0, s1_2_0, s1_3_0, h51_4]; done) | (simp [pNA, p_calcL, pNA64, s1_0_0, s1_1_0, s1_2_0, s1_3_0, h51_4]; done) | (simp [p_calcL, pNA64, Int32.not_lt, Int32.not_le, Int64.not_lt, Int64.not_le, s1_0_0, s1_1_0, s1_2_0, s1_3_0, h51_4]; done) | (simp_all [p_calcL, pNA64, Int32.not_lt, Int32.not_le, Int64.not_lt, Int64.not_le]; done)
    · replace h51_4 : (y) = 0 := Classical.not_not.mp h51_4
      refine z_i rfl rfl ?_
      refine z_j rfl ?_
      refine z_retL rfl (Nat.zero_le _) (Nat.zero_le _) (z_valL hq ?_)
      first | (simp [p_calcL, pNA64, s1_0_0, s1_1_0, s1_2_0, s1_3_0, h51_4]; done) | (simp [pNA, p_calcL, pNA64, s1_0_0, s1_1_0, s1_2_0, s1_3_0, h51_4]; done) | (simp [p_calcL, pNA64, Int32.not_lt, Int32.not_le, Int64.not_lt, Int64.not_le, s1_0_0, s1_1_0, s1_2_0, s1_3_0, h51_4]; done) | (simp_all [p_calcL, pNA64, Int32.not_lt, Int32.not_le, Int64.not_lt, Int64.not_le]; done)
  refine z_sw rfl (t := 67) (by rw [zswt_ne (lv_neT s1_0_0 (by decide))]; rw [zswt_ne (lv_neT s1_1_0 (by decide))]; rw [zswt_ne (lv_neT s1_2_0 (by decide))]; rw [zswt_ne (lv_neT s1_3_0 (by decide))]; rfl) ?_
  refine z_i rfl rfl ?_
  refine z_b rfl rfl (fun h68_4 => ?_) (fun h68_4 => ?_)
  · replace h68_4 : ¬ (y) = 0 := h68_4
    refine z_i rfl rfl ?_
    refine z_i rfl rfl ?_
    refine z_cSp [.int (x), .int (y)] [] 0 rfl (r_floorMod dA 0 (x) (y) _ (by assumption)) rfl rfl (Nat.le_of_ble_eq_true rfl) (Nat.le_of_ble_eq_true rfl) (by omega) (Nat.zero_le _) (Nat.zero_le _) ?_
    show zx dA _ 0 0 _ 82 _ (.int (p_fmod (x) (y)) :: []) _ _ _ _
    refine z_i rfl rfl ?_
    refine z_retL rfl (Nat.zero_le _) (Nat.zero_le _) (z_valL hq ?_)
    first | (simp [p_calcL, pNA64, s1_0_0, s1_1_0, s1_2_0, s1_3_0, h68_4]; done) | (simp [pNA, p_calcL, pNA64, s1_0_0, s1_1_0, s1_2_0, s1_3_0, h68_4]; done) | (simp [p_calcL, pNA64, Int32.not_lt, Int32.not_le, Int64.not_lt, Int64.not_le, s1_0_0, s1_1_0, s1_2_0, s1_3_0, h68_4]; done) | (simp_all [p_calcL, pNA64, Int32.not_lt, Int32.not_le, Int64.not_lt, Int64.not_le]; done)
  · replace h68_4 : (y) = 0 := Classical.not_not.mp h68_4
    refine z_i rfl rfl ?_
    refine z_j rfl ?_
    refine z_retL rfl (Nat.zero_le _) (Nat.zero_le _) (z_valL hq ?_)
    first | (simp [p_calcL, pNA64, s1_0_0, s1_1_0, s1_2_0, s1_3_0, h68_4]; done) | (simp [pNA, p_calcL, pNA64, s1_0_0, s1_1_0, s1_2_0, s1_3_0, h68_4]; done) | (simp [p_calcL, pNA64, Int32.not_lt, Int32.not_le, Int64.not_lt, Int64.not_le, s1_0_0, s1_1_0, s1_2_0, s1_3_0, h68_4]; done) | (simp_all [p_calcL, pNA64, Int32.not_lt, Int32.not_le, Int64.not_lt, Int64.not_le]; done)
set_option maxRecDepth 20000 in
theorem r_pair (dA : Nat → ClassId) (d : Nat) (hd : 2 ≤ d) (k op x y : Int32) (w : ww_W) : zpure dA d M_Elements_pair 4 [.int (k), .int (op), .int (x), .int (y)] w (some (.int (p_pair k op x y))) := by
  intro Q hq
  refine z_i rfl rfl ?_
  refine z_i rfl rfl ?_
  refine z_b rfl rfl (fun h3_0 => ?_) (fun h3_0 => ?_)
  · replace h3_0 : ¬ (k) = (8) := h3_0
    refine z_i rfl rfl ?_
    refine z_i rfl rfl ?_
    refine z_b rfl rfl (fun h27_1 => ?_) (fun h27_1 => ?_)
    · replace h27_1 : (x) = (-2147483648) := h27_1
      refine z_i rfl rfl ?_
      refine z_retI rfl (Nat.zero_le _) (Nat.zero_le _) (z_val hq ?_)
      first | (simp [p_pair, p_calc, h3_0, h27_1]; done) | (simp [pNA, p_pair, p_calc, h3_0, h27_1]; done) | (simp [p_pair, p_calc, Int32.not_lt, Int32.not_le, Int64.not_lt, Int64.not_le, h3_0, h27_1]; done) | (simp_all [p_pair, p_calc, Int32.not_lt, Int32.not_le, Int64.not_lt, Int64.not_le]; done)
    · replace h27_1 : ¬ ((x) = (-2147483648)) := h27_1
      refine z_i rfl rfl ?_
      refine z_i rfl rfl ?_
      refine z_b rfl rfl (fun h33_2 => ?_) (fun h33_2 => ?_)
      · replace h33_2 : ¬ (y) = (-2147483648) := h33_2
        refine z_i rfl rfl ?_
        refine z_i rfl rfl ?_
        refine z_b rfl rfl (fun h42_3 => ?_) (fun h42_3 => ?_)
        · replace h42_3 : ¬ (k) = (7) := h42_3
          refine z_i rfl rfl ?_
          refine z_i rfl rfl ?_
          refine z_i rfl rfl ?_
          refine z_cSp [.int (op), .int (x), .int (y)] [] 1 rfl (r_calculate dA 1 (by omega) (op) (x) (y) _) rfl rfl (Nat.le_of_ble_eq_true rfl) (Nat.le_of_ble_eq_true rfl) (by omega) (Nat.zero_le _) (Nat.zero_le _) ?_
          show zx dA _ 0 0 _ 60 _ (.long (p_calcL (op) (x) (y)) :: []) _ _ _ _
          refine z_cSp [.long (p_calcL (op) (x) (y))] [] 0 rfl (r_inRange dA 0 (p_calcL (op) (x) (y)) _) rfl rfl (Nat.le_of_ble_eq_true rfl) (Nat.le_of_ble_eq_true rfl) (by omega) (Nat.zero_le _) (Nat.zero_le _) ?_
          show zx dA _ 0 0 _ 63 _ (.int (p_rng (p_calcL (op) (x) (y))) :: []) _ _ _ _
          refine z_retI rfl (Nat.zero_le _) (Nat.zero_le _) (z_val hq ?_)
          first | (simp [p_pair, p_calc, h3_0, h27_1, h33_2, h42_3]; done) | (simp [pNA, p_pair, p_calc, h3_0, h27_1, h33_2, h42_3]; done) | (simp [p_pair, p_calc, Int32.not_lt, Int32.not_le, Int64.not_lt, Int64.not_le, h3_0, h27_1, h33_2, h42_3]; done) | (simp_all [p_pair, p_calc, Int32.not_lt, Int32.not_le, Int64.not_lt, Int64.not_le]; done)
        · replace h42_3 : (k) = (7) := Classical.not_not.mp h42_3
          refine z_i rfl rfl ?_
          refine z_i rfl rfl ?_
          refine z_i rfl rfl ?_
          refine z_cSp [.int (op), .int (x), .int (y)] [] 0 rfl (r_compare dA 0 (op) (x) (y) _) rfl rfl (Nat.le_of_ble_eq_true rfl) (Nat.le_of_ble_eq_true rfl) (by omega) (Nat.zero_le _) (Nat.zero_le _) ?_
          show zx dA _ 0 0 _ 51 _ (.int (p_cmp (op) (x) (y)) :: []) _ _ _ _
          refine z_j rfl ?_
          refine z_retI rfl (Nat.zero_le _) (Nat.zero_le _) (z_val hq ?_)
          first | (simp [p_pair, p_calc, h3_0, h27_1, h33_2, h42_3]; done) | (simp [pNA, p_pair, p_calc, h3_0, h27_1, h33_2, h42_3]; done) | (simp [p_pair, p_calc, Int32.not_lt, Int32.not_le, Int64.not_lt, Int64.not_le, h3_0, h27_1, h33_2, h42_3]; done) | (simp_all [p_pair, p_calc, Int32.not_lt, Int32.not_le, Int64.not_lt, Int64.not_le]; done)
      · replace h33_2 : (y) = (-2147483648) := Classical.not_not.mp h33_2
        refine z_i rfl rfl ?_
        refine z_retI rfl (Nat.zero_le _) (Nat.zero_le _) (z_val hq ?_)
        first | (simp [p_pair, p_calc, h3_0, h27_1, h33_2]; done) | (simp [pNA, p_pair, p_calc, h3_0, h27_1, h33_2]; done) | (simp [p_pair, p_calc, Int32.not_lt, Int32.not_le, Int64.not_lt, Int64.not_le, h3_0, h27_1, h33_2]; done) | (simp_all [p_pair, p_calc, Int32.not_lt, Int32.not_le, Int64.not_lt, Int64.not_le]; done)
  · replace h3_0 : (k) = (8) := Classical.not_not.mp h3_0
    refine z_i rfl rfl ?_
    refine z_b rfl rfl (fun h7_1 => ?_) (fun h7_1 => ?_)
    · replace h7_1 : ¬ (op) = 0 := h7_1
      refine z_i rfl rfl ?_
      refine z_i rfl rfl ?_
      refine z_cSp [.int (x), .int (y)] [] 0 rfl (r_or dA 0 (x) (y) _) rfl rfl (Nat.le_of_ble_eq_true rfl) (Nat.le_of_ble_eq_true rfl) (by omega) (Nat.zero_le _) (Nat.zero_le _) ?_
      show zx dA _ 0 0 _ 23 _ (.int (p_or (x) (y)) :: []) _ _ _ _
      refine z_retI rfl (Nat.zero_le _) (Nat.zero_le _) (z_val hq ?_)
      first | (simp [p_pair, p_calc, h3_0, h7_1]; done) | (simp [pNA, p_pair, p_calc, h3_0, h7_1]; done) | (simp [p_pair, p_calc, Int32.not_lt, Int32.not_le, Int64.not_lt, Int64.not_le, h3_0, h7_1]; done) | (simp_all [p_pair, p_calc, Int32.not_lt, Int32.not_le, Int64.not_lt, Int64.not_le]; done)
    · replace h7_1 : (op) = 0 := Classical.not_not.mp h7_1
      refine z_i rfl rfl ?_
      refine z_i rfl rfl ?_
      refine z_cSp [.int (x), .int (y)] [] 0 rfl (r_and dA 0 (x) (y) _) rfl rfl (Nat.le_of_ble_eq_true rfl) (Nat.le_of_ble_eq_true rfl) (by omega) (Nat.zero_le _) (Nat.zero_le _) ?_
      show zx dA _ 0 0 _ 15 _ (.int (p_and (x) (y)) :: []) _ _ _ _
      refine z_j rfl ?_
      refine z_retI rfl (Nat.zero_le _) (Nat.zero_le _) (z_val hq ?_)
      first | (simp [p_pair, p_calc, h3_0, h7_1]; done) | (simp [pNA, p_pair, p_calc, h3_0, h7_1]; done) | (simp [p_pair, p_calc, Int32.not_lt, Int32.not_le, Int64.not_lt, Int64.not_le, h3_0, h7_1]; done) | (simp_all [p_pair, p_calc, Int32.not_lt, Int32.not_le, Int64.not_lt, Int64.not_le]; done)
set_option maxRecDepth 20000 in
theorem r_isVariable (dA : Nat → ClassId) (d : Nat) (x : Int32) (w : ww_W) : zpure dA d M_VectorLanguage_isVariable 1 [.int (x)] w (some (.int (p_var x))) := by
  intro Q hq
  refine z_i rfl rfl ?_
  refine z_b rfl rfl (fun h1_0 => ?_) (fun h1_0 => ?_)
  · replace h1_0 : (x) < 0 := h1_0
    refine z_i rfl rfl ?_
    refine z_retZ rfl (by decide) (Nat.zero_le _) (Nat.zero_le _) (z_val hq ?_)
    first | (simp [p_var, h1_0]; done) | (simp [pNA, p_var, h1_0]; done) | (simp [p_var, Int32.not_lt, Int32.not_le, Int64.not_lt, Int64.not_le, h1_0]; done) | (simp_all [p_var, Int32.not_lt, Int32.not_le, Int64.not_lt, Int64.not_le]; done)
  · replace h1_0 : ¬ ((x) < 0) := h1_0
    refine z_i rfl rfl ?_
    refine z_i rfl rfl ?_
    refine z_b rfl rfl (fun h7_1 => ?_) (fun h7_1 => ?_)
    · replace h7_1 : (10) ≤ (x) := h7_1
      refine z_i rfl rfl ?_
      refine z_retZ rfl (by decide) (Nat.zero_le _) (Nat.zero_le _) (z_val hq ?_)
      first | (simp [p_var, h1_0, h7_1]; done) | (simp [pNA, p_var, h1_0, h7_1]; done) | (simp [p_var, Int32.not_lt, Int32.not_le, Int64.not_lt, Int64.not_le, h1_0, h7_1]; done) | (simp_all [p_var, Int32.not_lt, Int32.not_le, Int64.not_lt, Int64.not_le]; done)
    · replace h7_1 : ¬ ((10) ≤ (x)) := h7_1
      refine z_i rfl rfl ?_
      refine z_j rfl ?_
      refine z_retZ rfl (by decide) (Nat.zero_le _) (Nat.zero_le _) (z_val hq ?_)
      first | (simp [p_var, h1_0, h7_1]; done) | (simp [pNA, p_var, h1_0, h7_1]; done) | (simp [p_var, Int32.not_lt, Int32.not_le, Int64.not_lt, Int64.not_le, h1_0, h7_1]; done) | (simp_all [p_var, Int32.not_lt, Int32.not_le, Int64.not_lt, Int64.not_le]; done)
set_option maxRecDepth 20000 in
theorem r_acceptsParameters (dA : Nat → ClassId) (d : Nat) (b x : Int32) (w : ww_W) : zpure dA d M_Program_acceptsParameters 2 [.int (b), .int (x)] w (some (.int (p_par b x))) := by
  intro Q hq
  refine z_i rfl rfl ?_
  refine z_b rfl rfl (fun h1_0 => ?_) (fun h1_0 => ?_)
  · replace h1_0 : (b) < 0 := h1_0
    refine z_i rfl rfl ?_
    refine z_retZ rfl (by decide) (Nat.zero_le _) (Nat.zero_le _) (z_val hq ?_)
    first | (simp [p_par, h1_0]; done) | (simp [pNA, p_par, h1_0]; done) | (simp [p_par, Int32.not_lt, Int32.not_le, Int64.not_lt, Int64.not_le, h1_0]; done) | (simp_all [p_par, Int32.not_lt, Int32.not_le, Int64.not_lt, Int64.not_le]; done)
  · replace h1_0 : ¬ ((b) < 0) := h1_0
    refine z_i rfl rfl ?_
    refine z_i rfl rfl ?_
    refine z_b rfl rfl (fun h6_1 => ?_) (fun h6_1 => ?_)
    · replace h6_1 : (b) ≤ (2) := h6_1
      refine z_i rfl rfl ?_
      refine z_b rfl rfl (fun h12_2 => ?_) (fun h12_2 => ?_)
      · replace h12_2 : (b) = 0 := h12_2
        refine z_i rfl rfl ?_
        refine z_j rfl ?_
        refine z_retZ rfl (by decide) (Nat.zero_le _) (Nat.zero_le _) (z_val hq ?_)
        first | (simp [p_par, h1_0, h6_1, h12_2]; done) | (simp [pNA, p_par, h1_0, h6_1, h12_2]; done) | (simp [p_par, Int32.not_lt, Int32.not_le, Int64.not_lt, Int64.not_le, h1_0, h6_1, h12_2]; done) | (simp_all [p_par, Int32.not_lt, Int32.not_le, Int64.not_lt, Int64.not_le]; done)
      · replace h12_2 : ¬ ((b) = 0) := h12_2
        refine z_i rfl rfl ?_
        refine z_b rfl rfl (fun h16_3 => ?_) (fun h16_3 => ?_)
        · replace h16_3 : (x) < 0 := h16_3
          refine z_i rfl rfl ?_
          refine z_retZ rfl (by decide) (Nat.zero_le _) (Nat.zero_le _) (z_val hq ?_)
          first | (simp [p_par, h1_0, h6_1, h12_2, h16_3]; done) | (simp [pNA, p_par, h1_0, h6_1, h12_2, h16_3]; done) | (simp [p_par, Int32.not_lt, Int32.not_le, Int64.not_lt, Int64.not_le, h1_0, h6_1, h12_2, h16_3]; done) | (simp_all [p_par, Int32.not_lt, Int32.not_le, Int64.not_lt, Int64.not_le]; done)
        · replace h16_3 : ¬ ((x) < 0) := h16_3
          refine z_i rfl rfl ?_
          refine z_i rfl rfl ?_
          refine z_i rfl rfl ?_
          refine z_i rfl rfl ?_
          refine z_b rfl rfl (fun h24_4 => ?_) (fun h24_4 => ?_)
          · replace h24_4 : ((10) - (b)) < (x) := h24_4
            refine z_i rfl rfl ?_
            refine z_retZ rfl (by decide) (Nat.zero_le _) (Nat.zero_le _) (z_val hq ?_)
            first | (simp [p_par, h1_0, h6_1, h12_2, h16_3, h24_4]; done) | (simp [pNA, p_par, h1_0, h6_1, h12_2, h16_3, h24_4]; done) | (simp [p_par, Int32.not_lt, Int32.not_le, Int64.not_lt, Int64.not_le, h1_0, h6_1, h12_2, h16_3, h24_4]; done) | (simp_all [p_par, Int32.not_lt, Int32.not_le, Int64.not_lt, Int64.not_le]; done)
          · replace h24_4 : ¬ (((10) - (b)) < (x)) := h24_4
            refine z_i rfl rfl ?_
            refine z_j rfl ?_
            refine z_retZ rfl (by decide) (Nat.zero_le _) (Nat.zero_le _) (z_val hq ?_)
            first | (simp [p_par, h1_0, h6_1, h12_2, h16_3, h24_4]; done) | (simp [pNA, p_par, h1_0, h6_1, h12_2, h16_3, h24_4]; done) | (simp [p_par, Int32.not_lt, Int32.not_le, Int64.not_lt, Int64.not_le, h1_0, h6_1, h12_2, h16_3, h24_4]; done) | (simp_all [p_par, Int32.not_lt, Int32.not_le, Int64.not_lt, Int64.not_le]; done)
    · replace h6_1 : ¬ ((b) ≤ (2)) := h6_1
      refine z_i rfl rfl ?_
      refine z_retZ rfl (by decide) (Nat.zero_le _) (Nat.zero_le _) (z_val hq ?_)
      first | (simp [p_par, h1_0, h6_1]; done) | (simp [pNA, p_par, h1_0, h6_1]; done) | (simp [p_par, Int32.not_lt, Int32.not_le, Int64.not_lt, Int64.not_le, h1_0, h6_1]; done) | (simp_all [p_par, Int32.not_lt, Int32.not_le, Int64.not_lt, Int64.not_le]; done)
set_option maxRecDepth 20000 in
theorem r_between (dA : Nat → ClassId) (d : Nat) (v a b : Int32) (w : ww_W) : zpure dA d M_VectorLanguageModel_between 3 [.int (v), .int (a), .int (b)] w (some (.int (p_btw v a b))) := by
  intro Q hq
  refine z_i rfl rfl ?_
  refine z_i rfl rfl ?_
  refine z_b rfl rfl (fun h2_0 => ?_) (fun h2_0 => ?_)
  · replace h2_0 : (v) < (a) := h2_0
    refine z_i rfl rfl ?_
    refine z_retZ rfl (by decide) (Nat.zero_le _) (Nat.zero_le _) (z_val hq ?_)
    first | (simp [p_btw, h2_0]; done) | (simp [pNA, p_btw, h2_0]; done) | (simp [p_btw, Int32.not_lt, Int32.not_le, Int64.not_lt, Int64.not_le, h2_0]; done) | (simp_all [p_btw, Int32.not_lt, Int32.not_le, Int64.not_lt, Int64.not_le]; done)
  · replace h2_0 : ¬ ((v) < (a)) := h2_0
    refine z_i rfl rfl ?_
    refine z_i rfl rfl ?_
    refine z_b rfl rfl (fun h7_1 => ?_) (fun h7_1 => ?_)
    · replace h7_1 : (b) < (v) := h7_1
      refine z_i rfl rfl ?_
      refine z_retZ rfl (by decide) (Nat.zero_le _) (Nat.zero_le _) (z_val hq ?_)
      first | (simp [p_btw, h2_0, h7_1]; done) | (simp [pNA, p_btw, h2_0, h7_1]; done) | (simp [p_btw, Int32.not_lt, Int32.not_le, Int64.not_lt, Int64.not_le, h2_0, h7_1]; done) | (simp_all [p_btw, Int32.not_lt, Int32.not_le, Int64.not_lt, Int64.not_le]; done)
    · replace h7_1 : ¬ ((b) < (v)) := h7_1
      refine z_i rfl rfl ?_
      refine z_j rfl ?_
      refine z_retZ rfl (by decide) (Nat.zero_le _) (Nat.zero_le _) (z_val hq ?_)
      first | (simp [p_btw, h2_0, h7_1]; done) | (simp [pNA, p_btw, h2_0, h7_1]; done) | (simp [p_btw, Int32.not_lt, Int32.not_le, Int64.not_lt, Int64.not_le, h2_0, h7_1]; done) | (simp_all [p_btw, Int32.not_lt, Int32.not_le, Int64.not_lt, Int64.not_le]; done)
set_option maxRecDepth 20000 in
theorem r_limited (dA : Nat → ClassId) (d : Nat) (x : Int64) (w : ww_W) : zpure dA d M_VectorLanguageModel_limited 2 [.long (x)] w (some (.int (p_rng x))) := by
  intro Q hq
  refine z_i rfl rfl ?_
  refine z_i rfl rfl ?_
  refine z_i rfl rfl ?_
  refine z_b rfl rfl (fun h5_0 => ?_) (fun h5_0 => ?_)
  · replace h5_0 : (x) < (-1000000000) := (lg_cmp_lt _ _).mp h5_0
    refine z_i rfl rfl ?_
    refine z_j rfl ?_
    refine z_retI rfl (Nat.zero_le _) (Nat.zero_le _) (z_val hq ?_)
    first | (simp [p_rng, h5_0]; done) | (simp [pNA, p_rng, h5_0]; done) | (simp [p_rng, Int32.not_lt, Int32.not_le, Int64.not_lt, Int64.not_le, h5_0]; done) | (simp_all [p_rng, Int32.not_lt, Int32.not_le, Int64.not_lt, Int64.not_le]; done)
  · replace h5_0 : ¬ ((x) < (-1000000000)) := fun q => h5_0 ((lg_cmp_lt _ _).mpr q)
    refine z_i rfl rfl ?_
    refine z_i rfl rfl ?_
    refine z_i rfl rfl ?_
    refine z_b rfl rfl (fun h13_1 => ?_) (fun h13_1 => ?_)
    · replace h13_1 : (x) ≤ (1000000000) := (lg_cmp_le _ _).mp h13_1
      refine z_i rfl rfl ?_
      refine z_i rfl rfl ?_
      refine z_retI rfl (Nat.zero_le _) (Nat.zero_le _) (z_val hq ?_)
      first | (simp [p_rng, h5_0, h13_1]; done) | (simp [pNA, p_rng, h5_0, h13_1]; done) | (simp [p_rng, Int32.not_lt, Int32.not_le, Int64.not_lt, Int64.not_le, h5_0, h13_1]; done) | (simp_all [p_rng, Int32.not_lt, Int32.not_le, Int64.not_lt, Int64.not_le]; done)
    · replace h13_1 : ¬ ((x) ≤ (1000000000)) := fun q => h13_1 ((lg_cmp_le _ _).mpr q)
      refine z_i rfl rfl ?_
      refine z_j rfl ?_
      refine z_retI rfl (Nat.zero_le _) (Nat.zero_le _) (z_val hq ?_)
      first | (simp [p_rng, h5_0, h13_1]; done) | (simp [pNA, p_rng, h5_0, h13_1]; done) | (simp [p_rng, Int32.not_lt, Int32.not_le, Int64.not_lt, Int64.not_le, h5_0, h13_1]; done) | (simp_all [p_rng, Int32.not_lt, Int32.not_le, Int64.not_lt, Int64.not_le]; done)
