/-! halves of a long -/
theorem ln_bv (x : Int64) (y : BitVec 32) : x.toInt32 = Int32.ofBitVec y ↔ x.toBitVec.setWidth 32 = y := by
  rw [← Int32.toBitVec_inj, Int64.toBitVec_toInt32, BitVec.signExtend_eq_setWidth_of_le _ (by decide)]
  exact Iff.rfl
theorem ln_nat (x : Int64) : x.toInt32.toBitVec.toNat = x.toBitVec.toNat % 2 ^ 32 := by
  rw [Int64.toBitVec_toInt32, BitVec.signExtend_eq_setWidth_of_le _ (by decide), BitVec.toNat_setWidth]
def lnA (x : Int64) (h : Int32) : Int32 := (x >>> (h.toInt64 &&& 63)).toInt32
theorem lnA_0 (x : Int64) : (lnA x 0).toBitVec.toNat = x.toBitVec.toNat % 2 ^ 32 := by
  unfold lnA
  rw [ln_nat, show ((0 : Int32).toInt64 &&& 63) = 0 by decide, Int64.toBitVec_shiftRight]
  simp
theorem lnA_1 (x : Int64) : (lnA x 32).toBitVec.toNat = x.toBitVec.toNat / 2 ^ 32 := by
  have h : (x.toBitVec.sshiftRight 32).setWidth 32 = (x.toBitVec >>> 32).setWidth 32 := by
    apply BitVec.eq_of_getLsbD_eq
    intro i hi
    simp only [BitVec.getLsbD_setWidth, BitVec.getLsbD_sshiftRight, BitVec.getLsbD_ushiftRight]
    have h1 : 32 + i < 64 := by omega
    simp [h1, hi]
    omega
  have h2 := congrArg BitVec.toNat h
  unfold lnA
  rw [ln_nat, show ((32 : Int32).toInt64 &&& 63) = 32 by decide, Int64.toBitVec_shiftRight, BitVec.sshiftRight_eq', show ((32 : Int64).toBitVec.smod 64).toNat = 32 by decide]
  rw [BitVec.toNat_setWidth, BitVec.toNat_setWidth, BitVec.toNat_ushiftRight, Nat.shiftRight_eq_div_pow] at h2
  rw [h2]
  have := x.toBitVec.isLt
  omega
theorem ln_eq {x y : Int32} (h : x.toBitVec.toNat = y.toBitVec.toNat) : x = y := Int32.toBitVec_inj.mp (BitVec.eq_of_toNat_eq h)
theorem ln_low (x : Int64) : (x &&& 4294967295).toBitVec.toNat = x.toBitVec.toNat % 2 ^ 32 := by
  rw [Int64.toBitVec_and, BitVec.toNat_and, show (4294967295 : Int64).toBitVec.toNat = 2 ^ 32 - 1 by decide, Nat.and_two_pow_sub_one_eq_mod]
theorem ln_ext (e : Int32) : (e.toInt64).toBitVec.toNat % 2 ^ 32 = e.toBitVec.toNat := by
  have h := ln_nat e.toInt64
  rw [Int32.toInt32_toInt64] at h
  exact h.symm
theorem ln_shl (e : Int32) : (e.toInt64 <<< ((32 : Int32).toInt64 &&& 63)).toBitVec.toNat = e.toBitVec.toNat * 2 ^ 32 := by
  rw [show ((32 : Int32).toInt64 &&& 63) = 32 by decide, Int64.toBitVec_shiftLeft, BitVec.shiftLeft_eq', show ((32 : Int64).toBitVec.smod 64).toNat = 32 by decide, BitVec.toNat_shiftLeft, Nat.shiftLeft_eq]
  have := ln_ext e
  have := e.toInt64.toBitVec.isLt
  have := e.toBitVec.isLt
  omega
/-- a half set -/
def lnS0 (x : Int64) (e : Int32) : Int64 := x - (x &&& 4294967295) + (e.toInt64 &&& 4294967295)
def lnS1 (x : Int64) (e : Int32) : Int64 := (e.toInt64 <<< ((32 : Int32).toInt64 &&& 63)) + (x &&& 4294967295)
theorem lnS0_n (x : Int64) (e : Int32) : (lnS0 x e).toBitVec.toNat = x.toBitVec.toNat / 2 ^ 32 * 2 ^ 32 + e.toBitVec.toNat := by
  unfold lnS0
  rw [Int64.toBitVec_add, Int64.toBitVec_sub, BitVec.toNat_add, BitVec.toNat_sub, ln_low, ln_low, ln_ext]
  have := x.toBitVec.isLt
  have := e.toBitVec.isLt
  omega
theorem lnS1_n (x : Int64) (e : Int32) : (lnS1 x e).toBitVec.toNat = e.toBitVec.toNat * 2 ^ 32 + x.toBitVec.toNat % 2 ^ 32 := by
  unfold lnS1
  rw [Int64.toBitVec_add, BitVec.toNat_add, ln_low, ln_shl]
  have := x.toBitVec.isLt
  have := e.toBitVec.isLt
  omega
theorem ln_00 (x : Int64) (e : Int32) : lnA (lnS0 x e) 0 = e := ln_eq (by
  rw [lnA_0, lnS0_n]
  have := e.toBitVec.isLt
  omega)
theorem ln_01 (x : Int64) (e : Int32) : lnA (lnS0 x e) 32 = lnA x 32 := ln_eq (by
  rw [lnA_1, lnA_1, lnS0_n]
  have := e.toBitVec.isLt
  omega)
theorem ln_11 (x : Int64) (e : Int32) : lnA (lnS1 x e) 32 = e := ln_eq (by
  rw [lnA_1, lnS1_n]
  omega)
theorem ln_10 (x : Int64) (e : Int32) : lnA (lnS1 x e) 0 = lnA x 0 := ln_eq (by
  rw [lnA_0, lnA_0, lnS1_n]
  omega)
/-- the element k of the value v in the store f -/
def atS (f : Nat → Int64) (v k : Nat) : Int32 := lnA (f (8 * v + k / 2)) (nI (32 * (k % 2)))
def stV (x : Int64) (k : Nat) (e : Int32) : Int64 := if k % 2 = 0 then lnS0 x e else lnS1 x e
def stS (S : mm) (v k : Nat) (e : Int32) : mm := jL S (8 * v + k / 2) (stV (S.2.2.1 (8 * v + k / 2)) k e)
theorem at_st {S : mm} {v k v' k' : Nat} {e : Int32} (hk : k < 16) (hk' : k' < 16) : atS (stS S v k e).2.2.1 v' k' = if v' = v ∧ k' = k then e else atS S.2.2.1 v' k' := by
  show lnA (vp_updL S.2.2.1 (8 * v + k / 2) _ (8 * v' + k' / 2)) _ = _
  by_cases h : 8 * v' + k' / 2 = 8 * v + k / 2
  · rw [h, pk_uLs]
    have hv : v' = v := by omega
    subst hv
    have hkk : k' / 2 = k / 2 := by omega
    unfold stV atS
    rw [hkk]
    rcases Nat.mod_two_eq_zero_or_one k with h1 | h1 <;> rcases Nat.mod_two_eq_zero_or_one k' with h2 | h2
    · rw [h1, h2, if_pos rfl, if_pos ⟨rfl, by omega⟩]
      exact ln_00 _ _
    · rw [h1, h2, if_pos rfl, if_neg (by omega)]
      exact ln_01 _ _
    · rw [h1, h2, if_neg (by decide), if_neg (by omega)]
      exact ln_10 _ _
    · rw [h1, h2, if_neg (by decide), if_pos ⟨rfl, by omega⟩]
      exact ln_11 _ _
  · rw [pk_uLn h, if_neg (fun q => h (by rw [q.1, q.2]))]
    rfl
section ME
variable {dA : Nat → ClassId} {b : Nat → Nat} {w : ww_W} {S : mm} {d K N μ pc : Nat} {Q : zQ}
theorem r_at (hb : mB b) {v k : Nat} (hv : v < 1000) (hk : k < 16) : zpure dA d M_VectorLanguageModel_at 3 [.ref (b 0), .int (nI v), .int (nI k)] (mw dA b w S) (some (.int (atS S.2.2.1 v k))) := by
  intro Q hq
  repeat first | refine z_i rfl rfl ?_ | refine m_gt hb rfl rfl ?_
  refine z_dv rfl (by decide) ?_
  repeat first | refine z_i rfl rfl ?_ | refine m_gt hb rfl rfl ?_
  refine m_lld hb (j := 8 * v + k / 2) rfl ?_ (by omega) ?_
  · show nI 8 * nI v + nI k / nI 2 = _
    rw [pk_mul, pk_div (by omega) (by decide) (by decide), nI_add]
  repeat first | refine z_i rfl rfl ?_ | refine m_gt hb rfl rfl ?_
  refine z_dv rfl (by decide) ?_
  repeat first | refine z_i rfl rfl ?_ | refine m_gt hb rfl rfl ?_
  refine z_retI rfl (Nat.zero_le _) (Nat.zero_le _) (z_val hq ?_)
  show _ = lnA _ (nI 32 * (nI k - nI k / nI 2 * nI 2))
  rw [pk_rem (by omega) (by decide) (by decide), pk_mul]
  rfl
theorem r_atv (hb : mB b) {v k : Nat} {e : Int32} (he : atS S.2.2.1 v k = e) (hv : v < 1000) (hk : k < 16) : zpure dA d M_VectorLanguageModel_at 3 [.ref (b 0), .int (nI v), .int (nI k)] (mw dA b w S) (some (.int e)) := by
  rw [← he]
  exact r_at hb hv hk
theorem r_set (hb : mB b) {v k : Nat} {e : Int32} (hv : v < 1000) (hk : k < 16) (hq : Q (.inl none) (mw dA b w (stS S v k e)) 0 0) : zx dA d 0 0 M_VectorLanguageModel_set 0 (zargs 7 [.ref (b 0), .int (nI v), .int (nI k), .int e]) [] (mw dA b w S) 0 0 Q := by
  have e1 : nI 8 * nI v + nI k / nI 2 = nI (8 * v + k / 2) := by rw [pk_mul, pk_div (by omega) (by decide) (by decide), nI_add]
  have e2 : nI k - nI k / nI 2 * nI 2 = nI (k % 2) := pk_rem (by omega) (by decide) (by decide)
  repeat first | refine z_i rfl rfl ?_ | refine m_gt hb rfl rfl ?_
  refine z_dv rfl (by decide) ?_
  repeat first | refine z_i rfl rfl ?_ | refine m_gt hb rfl rfl ?_
  refine m_lld hb (j := 8 * v + k / 2) rfl e1 (by omega) ?_
  repeat first | refine z_i rfl rfl ?_ | refine m_gt hb rfl rfl ?_
  refine z_dv rfl (by decide) ?_
  refine z_b rfl rfl (fun h => ?_) (fun h => ?_)
  · replace h : ¬ nI k - nI k / nI 2 * nI 2 = 0 := h
    rw [e2] at h
    have h1 : k % 2 = 1 := by
      rcases Nat.mod_two_eq_zero_or_one k with h1 | h1
      · rw [h1] at h; exact absurd nI_0 h
      · exact h1
    repeat first | refine z_i rfl rfl ?_ | refine m_gt hb rfl rfl ?_
    refine m_lst hb (j := 8 * v + k / 2) rfl e1 (by omega) ?_
    refine z_retV rfl (Nat.zero_le _) (Nat.zero_le _) ?_
    have : stS S v k e = jL S (8 * v + k / 2) (lnS1 (S.2.2.1 (8 * v + k / 2)) e) := by unfold stS stV; rw [if_neg (by omega)]
    rw [this] at hq
    exact hq
  · replace h : nI k - nI k / nI 2 * nI 2 = 0 := Classical.not_not.mp h
    rw [e2, nI_z (by omega)] at h
    repeat first | refine z_i rfl rfl ?_ | refine m_gt hb rfl rfl ?_
    refine m_lld hb (j := 8 * v + k / 2) rfl e1 (by omega) ?_
    repeat first | refine z_i rfl rfl ?_ | refine m_gt hb rfl rfl ?_
    refine z_j rfl ?_
    refine m_lst hb (j := 8 * v + k / 2) rfl e1 (by omega) ?_
    refine z_retV rfl (Nat.zero_le _) (Nat.zero_le _) ?_
    have : stS S v k e = jL S (8 * v + k / 2) (lnS0 (S.2.2.1 (8 * v + k / 2)) e) := by unfold stS stV; rw [if_pos h]
    rw [this] at hq
    exact hq
end ME
