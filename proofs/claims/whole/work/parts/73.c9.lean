/-! the place kept apart is chosen anew -/
section J9
variable {dA : Nat → ClassId} {c : Nat → Nat} {P : aP} {mk z : Nat} {w W : ww_W} {G : gG} {s : aS}
theorem rv_c9 (hk : ∀ (a : Nat) (e : va_E), w a = some e → W a = some e) (hz : w z = none) {v : Value} {x : aV} (h : rv dA c P mk w G s v x) : rv dA (va_up c 9 z) P mk W G s v x := by
  cases x with
  | inl xs =>
    obtain ⟨a, q, f, h1, h2, h3, h4, h5, h6⟩ := h
    exact ⟨a, q, f, h1, hk _ _ h2, hk _ _ h3, h4, ⟨h5.1, fun e => by
      have e1 : q = z := e
      rw [e1, hz] at h3
      cases h3⟩, h6⟩
  | inr fn =>
    obtain ⟨h1, h2, h3⟩ := h
    exact ⟨h1, hk _ _ h2, h3⟩
theorem rvO_c9 (hk : ∀ (a : Nat) (e : va_E), w a = some e → W a = some e) (hz : w z = none) {v : Value} {x : Option aV} (h : rvO dA c P mk w G s v x) : rvO dA (va_up c 9 z) P mk W G s v x := by
  cases x with
  | none => exact h
  | some x => exact rv_c9 hk hz h
theorem CI_c9 (hk : ∀ (a : Nat) (e : va_E), w a = some e → W a = some e) (hz : w z = none) (h9 : ∃ e : va_E, W z = some e ∧ ¬ mtb (va_up c 9 z) z e) (h : CI dA c P mk w G s) : CI dA (va_up c 9 z) P mk W G s := by
  obtain ⟨⟨ea, eb, he, her⟩, ⟨hh, p1, p2, p3, p4⟩, ck, pl, en, di, c3, c4, c5, c6⟩ := h
  refine ⟨⟨ea, eb, hk _ _ he, ?_⟩, ⟨hh, hk _ _ p1, hk _ _ p2, p3, fun e hlt => ?_⟩, ⟨rv_c9 hk hz ck.1, rv_c9 hk hz ck.2.1, rv_c9 hk hz ck.2.2.1, rv_c9 hk hz ck.2.2.2.1, h9⟩, ?_, fun i hi => ?_, di, c3, c4, fun i j a ha => ?_, fun n hn => ?_⟩
  · generalize sR s = o at her ⊢
    cases o with
    | none => exact her
    | some x => exact ⟨her.1, her.2.1, rv_c9 hk hz her.2.2⟩
  · obtain ⟨q0, x0, n0, q1, q2, q3⟩ := p4 e hlt
    exact ⟨q0, x0, n0, q1, hk _ _ q2, fun hk0 => rv_c9 hk hz (q3 hk0)⟩
  · obtain ⟨n, b1, a1, x, F, f1, f2⟩ := pl
    exact ⟨n, b1, a1, x, F, hk _ _ f1, hk _ _ f2⟩
  · obtain ⟨ou, ca, hrow, n1, n2, n3, n4⟩ := en i hi
    refine ⟨ou, ca, hrow, hk _ _ n1, hk _ _ n2, ?_, fun j hj => ?_⟩
    · cases hc : sC s i with
      | none => rw [hc] at n3; exact n3
      | some fn => rw [hc] at n3; exact ⟨n3.1, n3.2.1, rv_c9 hk hz n3.2.2⟩
    · have := n4 j hj
      generalize sL s i j = l at this ⊢
      match l, this with
      | none, h => exact h
      | some (.inl x), h =>
        obtain ⟨a, g1, g2⟩ := h
        exact ⟨a, g1, rv_c9 hk hz g2⟩
      | some (.inr x), h =>
        obtain ⟨a, kv, g1, g2, g3, g4, g5, g6⟩ := h
        exact ⟨a, kv, g1, g2, hk _ _ g3, rvO_c9 hk hz g4, g5, g6⟩
  · obtain ⟨fs, g1, g2⟩ := c5 i j a ha
    exact ⟨fs, hk _ _ g1, g2⟩
  · obtain ⟨fs, g1⟩ := c6 n hn
    exact ⟨fs, hk _ _ g1⟩
end J9
