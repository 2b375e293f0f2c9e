/-! what makes an expression, kind by kind; the reference's fits -/
section OE
variable {m : Nat} {a b c : Int32}
theorem okE_0 : okE m (nI 0) a b c ↔ (-1000000000 ≤ a ∧ a ≤ 1000000000) := by
  unfold okE
  exact ⟨fun h => h.2.1 rfl, fun h => ⟨⟨0, by decide, rfl⟩, fun _ => h, fun q => absurd q (by decide), fun q => absurd q (by decide), fun q => absurd q (by decide), fun q => absurd q (by decide), fun q => absurd q (by decide), fun q => absurd q (by decide), fun q => absurd q (by decide), fun q => absurd q (by decide), fun q => absurd q (by decide), fun q => absurd q (by decide), fun q => absurd q (by decide)⟩⟩
theorem okE_1 : okE m (nI 1) a b c := by
  unfold okE
  exact ⟨⟨1, by decide, rfl⟩, fun q => absurd q (by decide), fun q => absurd q (by decide), fun q => absurd q (by decide), fun q => absurd q (by decide), fun q => absurd q (by decide), fun q => absurd q (by decide), fun q => absurd q (by decide), fun q => absurd q (by decide), fun q => absurd q (by decide), fun q => absurd q (by decide), fun q => absurd q (by decide), fun q => absurd q (by decide)⟩
theorem okE_2 : okE m (nI 2) a b c := by
  unfold okE
  exact ⟨⟨2, by decide, rfl⟩, fun q => absurd q (by decide), fun q => absurd q (by decide), fun q => absurd q (by decide), fun q => absurd q (by decide), fun q => absurd q (by decide), fun q => absurd q (by decide), fun q => absurd q (by decide), fun q => absurd q (by decide), fun q => absurd q (by decide), fun q => absurd q (by decide), fun q => absurd q (by decide), fun q => absurd q (by decide)⟩
theorem okE_3 : okE m (nI 3) a b c ↔ (okV a) := by
  unfold okE
  exact ⟨fun h => h.2.2.1 (Or.inl rfl), fun h => ⟨⟨3, by decide, rfl⟩, fun q => absurd q (by decide), fun _ => h, fun q => absurd q (by decide), fun q => absurd q (by decide), fun q => absurd q (by decide), fun q => absurd q (by decide), fun q => absurd q (by decide), fun q => absurd q (by decide), fun q => absurd q (by decide), fun q => absurd q (by decide), fun q => absurd q (by decide), fun q => absurd q (by decide)⟩⟩
theorem okE_4 : okE m (nI 4) a b c ↔ (okV a ∧ okH m b) := by
  unfold okE
  exact ⟨fun h => h.2.2.2.1 (Or.inl rfl), fun h => ⟨⟨4, by decide, rfl⟩, fun q => absurd q (by decide), fun q => absurd q (by decide), fun _ => h, fun q => absurd q (by decide), fun q => absurd q (by decide), fun q => absurd q (by decide), fun q => absurd q (by decide), fun q => absurd q (by decide), fun q => absurd q (by decide), fun q => absurd q (by decide), fun q => absurd q (by decide), fun q => absurd q (by decide)⟩⟩
theorem okE_5 : okE m (nI 5) a b c ↔ (okV a ∧ okH m b) := by
  unfold okE
  exact ⟨fun h => h.2.2.2.1 (Or.inr (rfl)), fun h => ⟨⟨5, by decide, rfl⟩, fun q => absurd q (by decide), fun q => absurd q (by decide), fun _ => h, fun q => absurd q (by decide), fun q => absurd q (by decide), fun q => absurd q (by decide), fun q => absurd q (by decide), fun q => absurd q (by decide), fun q => absurd q (by decide), fun q => absurd q (by decide), fun q => absurd q (by decide), fun q => absurd q (by decide)⟩⟩
theorem okE_6 : okE m (nI 6) a b c ↔ (¬ c < 0 ∧ c ≤ 4) ∧ (okH m a ∧ okH m b) := by
  unfold okE
  exact ⟨fun h => ⟨h.2.2.2.2.1 rfl, h.2.2.2.2.2.2.2.1 (Or.inl rfl)⟩, fun h => ⟨⟨6, by decide, rfl⟩, fun q => absurd q (by decide), fun q => absurd q (by decide), fun q => absurd q (by decide), fun _ => h.1, fun q => absurd q (by decide), fun q => absurd q (by decide), fun _ => h.2, fun q => absurd q (by decide), fun q => absurd q (by decide), fun q => absurd q (by decide), fun q => absurd q (by decide), fun q => absurd q (by decide)⟩⟩
theorem okE_7 : okE m (nI 7) a b c ↔ (¬ c < 0 ∧ c ≤ 2) ∧ (okH m a ∧ okH m b) := by
  unfold okE
  exact ⟨fun h => ⟨h.2.2.2.2.2.1 rfl, h.2.2.2.2.2.2.2.1 (Or.inr (Or.inl rfl))⟩, fun h => ⟨⟨7, by decide, rfl⟩, fun q => absurd q (by decide), fun q => absurd q (by decide), fun q => absurd q (by decide), fun q => absurd q (by decide), fun _ => h.1, fun q => absurd q (by decide), fun _ => h.2, fun q => absurd q (by decide), fun q => absurd q (by decide), fun q => absurd q (by decide), fun q => absurd q (by decide), fun q => absurd q (by decide)⟩⟩
theorem okE_8 : okE m (nI 8) a b c ↔ (¬ c < 0 ∧ c ≤ 1) ∧ (okH m a ∧ okH m b) := by
  unfold okE
  exact ⟨fun h => ⟨h.2.2.2.2.2.2.1 rfl, h.2.2.2.2.2.2.2.1 (Or.inr (Or.inr (Or.inl rfl)))⟩, fun h => ⟨⟨8, by decide, rfl⟩, fun q => absurd q (by decide), fun q => absurd q (by decide), fun q => absurd q (by decide), fun q => absurd q (by decide), fun q => absurd q (by decide), fun _ => h.1, fun _ => h.2, fun q => absurd q (by decide), fun q => absurd q (by decide), fun q => absurd q (by decide), fun q => absurd q (by decide), fun q => absurd q (by decide)⟩⟩
theorem okE_9 : okE m (nI 9) a b c ↔ (okH m a) := by
  unfold okE
  exact ⟨fun h => h.2.2.2.2.2.2.2.2.1 (Or.inl rfl), fun h => ⟨⟨9, by decide, rfl⟩, fun q => absurd q (by decide), fun q => absurd q (by decide), fun q => absurd q (by decide), fun q => absurd q (by decide), fun q => absurd q (by decide), fun q => absurd q (by decide), fun q => absurd q (by decide), fun _ => h, fun q => absurd q (by decide), fun q => absurd q (by decide), fun q => absurd q (by decide), fun q => absurd q (by decide)⟩⟩
theorem okE_10 : okE m (nI 10) a b c ↔ (okH m a ∧ okH m b) := by
  unfold okE
  exact ⟨fun h => h.2.2.2.2.2.2.2.1 (Or.inr (Or.inr (Or.inr (Or.inl rfl)))), fun h => ⟨⟨10, by decide, rfl⟩, fun q => absurd q (by decide), fun q => absurd q (by decide), fun q => absurd q (by decide), fun q => absurd q (by decide), fun q => absurd q (by decide), fun q => absurd q (by decide), fun _ => h, fun q => absurd q (by decide), fun q => absurd q (by decide), fun q => absurd q (by decide), fun q => absurd q (by decide), fun q => absurd q (by decide)⟩⟩
theorem okE_11 : okE m (nI 11) a b c ↔ (okH m a ∧ okH m b) := by
  unfold okE
  exact ⟨fun h => h.2.2.2.2.2.2.2.1 (Or.inr (Or.inr (Or.inr (Or.inr (Or.inl rfl))))), fun h => ⟨⟨11, by decide, rfl⟩, fun q => absurd q (by decide), fun q => absurd q (by decide), fun q => absurd q (by decide), fun q => absurd q (by decide), fun q => absurd q (by decide), fun q => absurd q (by decide), fun _ => h, fun q => absurd q (by decide), fun q => absurd q (by decide), fun q => absurd q (by decide), fun q => absurd q (by decide), fun q => absurd q (by decide)⟩⟩
theorem okE_12 : okE m (nI 12) a b c ↔ (okH m a ∧ okH m b) := by
  unfold okE
  exact ⟨fun h => h.2.2.2.2.2.2.2.1 (Or.inr (Or.inr (Or.inr (Or.inr (Or.inr (Or.inl rfl)))))), fun h => ⟨⟨12, by decide, rfl⟩, fun q => absurd q (by decide), fun q => absurd q (by decide), fun q => absurd q (by decide), fun q => absurd q (by decide), fun q => absurd q (by decide), fun q => absurd q (by decide), fun _ => h, fun q => absurd q (by decide), fun q => absurd q (by decide), fun q => absurd q (by decide), fun q => absurd q (by decide), fun q => absurd q (by decide)⟩⟩
theorem okE_13 : okE m (nI 13) a b c ↔ (okV a ∧ okH m b ∧ okH m c) := by
  unfold okE
  exact ⟨fun h => h.2.2.2.2.2.2.2.2.2.1 rfl, fun h => ⟨⟨13, by decide, rfl⟩, fun q => absurd q (by decide), fun q => absurd q (by decide), fun q => absurd q (by decide), fun q => absurd q (by decide), fun q => absurd q (by decide), fun q => absurd q (by decide), fun q => absurd q (by decide), fun q => absurd q (by decide), fun _ => h, fun q => absurd q (by decide), fun q => absurd q (by decide), fun q => absurd q (by decide)⟩⟩
theorem okE_14 : okE m (nI 14) a b c ↔ (okH m a) := by
  unfold okE
  exact ⟨fun h => h.2.2.2.2.2.2.2.2.1 (Or.inr (Or.inl rfl)), fun h => ⟨⟨14, by decide, rfl⟩, fun q => absurd q (by decide), fun q => absurd q (by decide), fun q => absurd q (by decide), fun q => absurd q (by decide), fun q => absurd q (by decide), fun q => absurd q (by decide), fun q => absurd q (by decide), fun _ => h, fun q => absurd q (by decide), fun q => absurd q (by decide), fun q => absurd q (by decide), fun q => absurd q (by decide)⟩⟩
theorem okE_15 : okE m (nI 15) a b c ↔ (okH m a) := by
  unfold okE
  exact ⟨fun h => h.2.2.2.2.2.2.2.2.1 (Or.inr (Or.inr (Or.inl rfl))), fun h => ⟨⟨15, by decide, rfl⟩, fun q => absurd q (by decide), fun q => absurd q (by decide), fun q => absurd q (by decide), fun q => absurd q (by decide), fun q => absurd q (by decide), fun q => absurd q (by decide), fun q => absurd q (by decide), fun _ => h, fun q => absurd q (by decide), fun q => absurd q (by decide), fun q => absurd q (by decide), fun q => absurd q (by decide)⟩⟩
theorem okE_16 : okE m (nI 16) a b c ↔ (okH m a ∧ okH m b ∧ (c = -1 ∨ okH m c)) := by
  unfold okE
  exact ⟨fun h => h.2.2.2.2.2.2.2.2.2.2.1 rfl, fun h => ⟨⟨16, by decide, rfl⟩, fun q => absurd q (by decide), fun q => absurd q (by decide), fun q => absurd q (by decide), fun q => absurd q (by decide), fun q => absurd q (by decide), fun q => absurd q (by decide), fun q => absurd q (by decide), fun q => absurd q (by decide), fun q => absurd q (by decide), fun _ => h, fun q => absurd q (by decide), fun q => absurd q (by decide)⟩⟩
theorem okE_17 : okE m (nI 17) a b c ↔ (okH m a ∧ okH m b) := by
  unfold okE
  exact ⟨fun h => h.2.2.2.2.2.2.2.1 (Or.inr (Or.inr (Or.inr (Or.inr (Or.inr (Or.inr (Or.inl rfl))))))), fun h => ⟨⟨17, by decide, rfl⟩, fun q => absurd q (by decide), fun q => absurd q (by decide), fun q => absurd q (by decide), fun q => absurd q (by decide), fun q => absurd q (by decide), fun q => absurd q (by decide), fun _ => h, fun q => absurd q (by decide), fun q => absurd q (by decide), fun q => absurd q (by decide), fun q => absurd q (by decide), fun q => absurd q (by decide)⟩⟩
theorem okE_18 : okE m (nI 18) a b c ↔ (okH m a ∧ okH m b) := by
  unfold okE
  exact ⟨fun h => h.2.2.2.2.2.2.2.1 (Or.inr (Or.inr (Or.inr (Or.inr (Or.inr (Or.inr (Or.inr (Or.inl rfl)))))))), fun h => ⟨⟨18, by decide, rfl⟩, fun q => absurd q (by decide), fun q => absurd q (by decide), fun q => absurd q (by decide), fun q => absurd q (by decide), fun q => absurd q (by decide), fun q => absurd q (by decide), fun _ => h, fun q => absurd q (by decide), fun q => absurd q (by decide), fun q => absurd q (by decide), fun q => absurd q (by decide), fun q => absurd q (by decide)⟩⟩
theorem okE_19 : okE m (nI 19) a b c ↔ (okH m a ∧ ∃ p : Nat, p ≤ 2 ∧ b = nI p ∧ (p = 0 ∨ ∃ f : Nat, f + p ≤ 10 ∧ c = nI f)) := by
  unfold okE
  exact ⟨fun h => h.2.2.2.2.2.2.2.2.2.2.2.1 rfl, fun h => ⟨⟨19, by decide, rfl⟩, fun q => absurd q (by decide), fun q => absurd q (by decide), fun q => absurd q (by decide), fun q => absurd q (by decide), fun q => absurd q (by decide), fun q => absurd q (by decide), fun q => absurd q (by decide), fun q => absurd q (by decide), fun q => absurd q (by decide), fun q => absurd q (by decide), fun _ => h, fun q => absurd q (by decide)⟩⟩
theorem okE_20 : okE m (nI 20) a b c ↔ (okH m a ∧ (b = -1 ∧ c = -1 ∨ okH m b ∧ (c = -1 ∨ okH m c))) := by
  unfold okE
  exact ⟨fun h => h.2.2.2.2.2.2.2.2.2.2.2.2 rfl, fun h => ⟨⟨20, by decide, rfl⟩, fun q => absurd q (by decide), fun q => absurd q (by decide), fun q => absurd q (by decide), fun q => absurd q (by decide), fun q => absurd q (by decide), fun q => absurd q (by decide), fun q => absurd q (by decide), fun q => absurd q (by decide), fun q => absurd q (by decide), fun q => absurd q (by decide), fun q => absurd q (by decide), fun _ => h⟩⟩
theorem okE_21 : okE m (nI 21) a b c ↔ (okV a) := by
  unfold okE
  exact ⟨fun h => h.2.2.1 (Or.inr (rfl)), fun h => ⟨⟨21, by decide, rfl⟩, fun q => absurd q (by decide), fun _ => h, fun q => absurd q (by decide), fun q => absurd q (by decide), fun q => absurd q (by decide), fun q => absurd q (by decide), fun q => absurd q (by decide), fun q => absurd q (by decide), fun q => absurd q (by decide), fun q => absurd q (by decide), fun q => absurd q (by decide), fun q => absurd q (by decide)⟩⟩
theorem okE_22 : okE m (nI 22) a b c ↔ (okH m a) := by
  unfold okE
  exact ⟨fun h => h.2.2.2.2.2.2.2.2.1 (Or.inr (Or.inr (Or.inr (Or.inl rfl)))), fun h => ⟨⟨22, by decide, rfl⟩, fun q => absurd q (by decide), fun q => absurd q (by decide), fun q => absurd q (by decide), fun q => absurd q (by decide), fun q => absurd q (by decide), fun q => absurd q (by decide), fun q => absurd q (by decide), fun _ => h, fun q => absurd q (by decide), fun q => absurd q (by decide), fun q => absurd q (by decide), fun q => absurd q (by decide)⟩⟩
theorem okE_23 : okE m (nI 23) a b c ↔ (okH m a) := by
  unfold okE
  exact ⟨fun h => h.2.2.2.2.2.2.2.2.1 (Or.inr (Or.inr (Or.inr (Or.inr (rfl))))), fun h => ⟨⟨23, by decide, rfl⟩, fun q => absurd q (by decide), fun q => absurd q (by decide), fun q => absurd q (by decide), fun q => absurd q (by decide), fun q => absurd q (by decide), fun q => absurd q (by decide), fun q => absurd q (by decide), fun _ => h, fun q => absurd q (by decide), fun q => absurd q (by decide), fun q => absurd q (by decide), fun q => absurd q (by decide)⟩⟩
theorem okE_24 : okE m (nI 24) a b c ↔ (okH m a ∧ okH m b) := by
  unfold okE
  exact ⟨fun h => h.2.2.2.2.2.2.2.1 (Or.inr (Or.inr (Or.inr (Or.inr (Or.inr (Or.inr (Or.inr (Or.inr (Or.inl rfl))))))))), fun h => ⟨⟨24, by decide, rfl⟩, fun q => absurd q (by decide), fun q => absurd q (by decide), fun q => absurd q (by decide), fun q => absurd q (by decide), fun q => absurd q (by decide), fun q => absurd q (by decide), fun _ => h, fun q => absurd q (by decide), fun q => absurd q (by decide), fun q => absurd q (by decide), fun q => absurd q (by decide), fun q => absurd q (by decide)⟩⟩
theorem okE_25 : okE m (nI 25) a b c ↔ (okH m a ∧ okH m b) := by
  unfold okE
  exact ⟨fun h => h.2.2.2.2.2.2.2.1 (Or.inr (Or.inr (Or.inr (Or.inr (Or.inr (Or.inr (Or.inr (Or.inr (Or.inr (rfl)))))))))), fun h => ⟨⟨25, by decide, rfl⟩, fun q => absurd q (by decide), fun q => absurd q (by decide), fun q => absurd q (by decide), fun q => absurd q (by decide), fun q => absurd q (by decide), fun q => absurd q (by decide), fun _ => h, fun q => absurd q (by decide), fun q => absurd q (by decide), fun q => absurd q (by decide), fun q => absurd q (by decide), fun q => absurd q (by decide)⟩⟩
theorem okH_b (hm : m ≤ 120) : (okH m a → p_btw a 0 (nI m - 1) = 1) ∧ (¬ okH m a → p_btw a 0 (nI m - 1) = 0) := by
  obtain ⟨h1, h2⟩ := p_btw_in (mk := m) (z := a) hm
  exact ⟨fun h => h1.mpr h, fun h => h2.resolve_right (fun q => h (h1.mp q))⟩
theorem p_btw_r {z lo hi : Int32} : (lo ≤ z ∧ z ≤ hi → p_btw z lo hi = 1) ∧ (¬ (lo ≤ z ∧ z ≤ hi) → p_btw z lo hi = 0) := by
  unfold p_btw
  constructor
  · rintro ⟨h1, h2⟩
    rw [if_neg (Int32.not_lt.mpr h1), if_neg (Int32.not_lt.mpr h2)]
  · intro h
    by_cases h1 : z < lo
    · rw [if_pos h1]
    · rw [if_neg h1]
      by_cases h2 : hi < z
      · rw [if_pos h2]
      · exact absurd ⟨Int32.not_lt.mp h1, Int32.not_lt.mp h2⟩ h
theorem okN_b {z : Int32} {k : Nat} (hk : k < 1000) : (0 ≤ z ∧ z ≤ nI k) ↔ ∃ j : Nat, j ≤ k ∧ z = nI j := by
  constructor
  · rintro ⟨h1, h2⟩
    rw [Int32.le_iff_toInt_le, show (0 : Int32).toInt = 0 by decide] at h1
    rw [Int32.le_iff_toInt_le, nI_toInt (by omega)] at h2
    exact ⟨z.toInt.toNat, by omega, Int32.toInt_inj.mp (by rw [nI_toInt (by omega)]; omega)⟩
  · rintro ⟨j, hj, rfl⟩
    exact ⟨nI_pos' (by omega), nI_le (by omega) (by omega)⟩
theorem okV_b : (0 ≤ a ∧ a ≤ 9) ↔ okV a := by
  have := okN_b (z := a) (k := 9) (by decide)
  refine this.trans ⟨fun ⟨j, h1, h2⟩ => ⟨j, by omega, h2⟩, fun ⟨j, h1, h2⟩ => ⟨j, by omega, h2⟩⟩
theorem okC_b {k : Nat} (hk : k < 1000) : (0 ≤ c ∧ c ≤ nI k) ↔ (¬ c < 0 ∧ c ≤ nI k) := ⟨fun h => ⟨Int32.not_lt.mpr h.1, h.2⟩, fun h => ⟨Int32.not_lt.mp h.1, h.2⟩⟩
end OE
