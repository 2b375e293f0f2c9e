/-! class and reference in one world -/
/-- the only array of ints of the reference that is not longer than 16 is the last -/
theorem mN_32 : ∀ k : Fin 33, mO k.val = true → ¬ k.val = 0 → ¬ k.val = 6 → ¬ k.val = 8 → mN k.val ≤ 16 → k.val = 32 := by decide
theorem mN_33 {k : Nat} (h : mO k = true) (h0 : ¬ k = 0) (h6 : ¬ k = 6) (h8 : ¬ k = 8) (hn : mN k ≤ 16) : k = 32 := mN_32 ⟨k, mO_lt h⟩ h h0 h6 h8 hn
section JN
variable {dA : Nat → ClassId} {b c : Nat → Nat} {P : aP} {mk : Nat} {w W : ww_W} {G : gG} {s : aS} {S S' : mm}
theorem mw_same (hb : mB b) (h : ∀ k : Nat, mO k = true → W (b k) = some (mE dA b S k)) : mw dA b W S = W := by
  funext a
  by_cases ha : ∃ j : Nat, mO j = true ∧ a = b j
  · obtain ⟨j, hj, rfl⟩ := ha
    rw [mw_at hb hj (mO_lt hj), h j hj]
  · exact mw_out (fun j hj q => ha ⟨j, hj, q⟩)
/-- an entry of the reference is nothing that a run of the class may change -/
theorem mE_nm {k : Nat} (hk : mO k = true) (h4 : b 32 ≠ c 4) : ¬ mtb c (b k) (mE dA b S k) := by
  unfold mE
  split
  · intro q
    rcases q with q | q | q | q <;> cases q
  · split
    · intro q
      rcases q with ⟨_, f, q⟩ | ⟨q, _⟩
      · cases q
      · cases q
    · split
      · intro q
        rcases q with ⟨_, f, q⟩ | ⟨q, _⟩
        · cases q
        · cases q
      · rename_i h0 h6 h8
        intro q
        rcases q with ⟨q1, f, q2⟩ | ⟨_, f, q2⟩
        · have e1 : mN k = 16 := congrArg Prod.fst q2
          have e2 : k = 32 := mN_33 hk h0 h6 h8 (by omega)
          rw [e2] at q1
          exact h4 q1
        · cases q2
theorem kp_mw (hb : mB b) (h4 : b 32 ≠ c 4) (h : kp c (mw dA b w S) W) : mw dA b W S = W := mw_same hb (fun k hk => h.1 _ _ (mw_at hb hk (mO_lt hk)) (mE_nm hk h4))
/-- the reference changes: what is the class's stays -/
theorem mk_o (hb : mB b) {a ci : Nat} {fs : List Value} (hn : ¬ ci = C_Model) (h : mw dA b w S a = some (.inr (ci, fs))) : mw dA b w S' a = some (.inr (ci, fs)) := by
  have ha : ∀ j : Nat, mO j = true → a ≠ b j := by
    intro j hj q
    rw [q, mw_at hb hj (mO_lt hj)] at h
    unfold mE at h
    split at h
    · cases h; exact hn rfl
    · split at h
      · cases h
      · split at h <;> cases h
  rw [mw_out ha] at h ⊢
  exact h
theorem mk_q (hb : mB b) {a m : Nat} {t : ClassId} {r : Nat → Option Nat} (h : mw dA b w S a = some (.inl (t, m, .inr (.inr (.inr (.inr r)))))) : mw dA b w S' a = some (.inl (t, m, .inr (.inr (.inr (.inr r))))) := by
  have ha : ∀ j : Nat, mO j = true → a ≠ b j := by
    intro j hj q
    rw [q, mw_at hb hj (mO_lt hj)] at h
    unfold mE at h
    split at h
    · cases h
    · split at h
      · cases h
      · split at h <;> cases h
  rw [mw_out ha] at h ⊢
  exact h
theorem mk_i (hb : mB b) {a m : Nat} {f : Nat → Int32} (hm : m ≤ 16) (h32 : a ≠ b 32) (h : mw dA b w S a = some (.inl (dA 0, m, .inl f))) : mw dA b w S' a = some (.inl (dA 0, m, .inl f)) := by
  have ha : ∀ j : Nat, mO j = true → a ≠ b j := by
    intro j hj q
    rw [q, mw_at hb hj (mO_lt hj)] at h
    unfold mE at h
    split at h
    · cases h
    · rename_i h0
      split at h
      · have h1 := congrArg (fun p : ClassId × vp_A => p.2.2) (Sum.inl.inj (Option.some.inj h))
        cases h1
      · rename_i h6
        split at h
        · have h1 := congrArg (fun p : ClassId × vp_A => p.2.1) (Sum.inl.inj (Option.some.inj h))
          have h2 : (1000 : Nat) = m := h1
          omega
        · rename_i h8
          have h1 := congrArg (fun p : ClassId × vp_A => p.2.1) (Sum.inl.inj (Option.some.inj h))
          have h2 : mN j = m := h1
          have e2 : j = 32 := mN_33 hj h0 h6 h8 (by omega)
          rw [e2] at q
          exact h32 q
  rw [mw_out ha] at h ⊢
  exact h
theorem rv_mw (hb : mB b) (h9 : c 9 = b 32) {v : Value} {z : aV} (h : rv dA c P mk (mw dA b w S) G s v z) : rv dA c P mk (mw dA b w S') G s v z := by
  cases z with
  | inl xs =>
    obtain ⟨a, q, f, h1, h2, h3, h4, h5, h6⟩ := h
    exact ⟨a, q, f, h1, mk_o hb (by decide) h2, mk_i hb h6.1 (by rw [← h9]; exact h5.2) h3, h4, h5, h6⟩
  | inr fn =>
    obtain ⟨h1, h2, h3⟩ := h
    exact ⟨h1, mk_o hb (by decide) h2, h3⟩
theorem rvO_mw (hb : mB b) (h9 : c 9 = b 32) {v : Value} {z : Option aV} (h : rvO dA c P mk (mw dA b w S) G s v z) : rvO dA c P mk (mw dA b w S') G s v z := by
  cases z with
  | none => exact (show v = .null from h)
  | some z => exact rv_mw hb h9 h
theorem CI_mw (hb : mB b) (h9 : c 9 = b 32) (h : CI dA c P mk (mw dA b w S) G s) : CI dA c P mk (mw dA b w S') G s := by
  obtain ⟨⟨ea, eb, he, her⟩, ⟨hh, p1, p2, p3, p4⟩, ck, pl, en, di, c3, c4, c5, c6⟩ := h
  have h49 : c 4 ≠ b 32 := by
    obtain ⟨n, b1, a1, x, F, f1, f2⟩ := pl
    obtain ⟨e9, t1, t2⟩ := ck.2.2.2.2
    intro q
    rw [h9, ← q, f2] at t1
    cases t1
    exact t2 (Or.inl ⟨by rw [h9, q], F, rfl⟩)
  refine ⟨⟨ea, eb, mk_o hb (by decide) he, ?_⟩, ⟨hh, mk_o hb (by decide) p1, mk_q hb p2, p3, fun e hlt => ?_⟩, ⟨rv_mw hb h9 ck.1, rv_mw hb h9 ck.2.1, rv_mw hb h9 ck.2.2.1, rv_mw hb h9 ck.2.2.2.1, ?_⟩, ?_, fun i hi => ?_, di, c3, c4, fun i j a ha => ?_, fun n hn => ?_⟩
  · generalize sR s = o at her ⊢
    cases o with
    | none => exact (show ea = .null ∧ eb = .null from her)
    | some z => exact ⟨her.1, her.2.1, rv_mw hb h9 her.2.2⟩
  · obtain ⟨q0, x0, n0, q1, q2, q3⟩ := p4 e hlt
    exact ⟨q0, x0, n0, q1, mk_o hb (by decide) q2, fun hk0 => rv_mw hb h9 (q3 hk0)⟩
  · refine ⟨_, by rw [h9]; exact mw_at hb rfl (by decide), ?_⟩
    rw [h9]
    exact mE_nm rfl (Ne.symm h49)
  · obtain ⟨n, b1, a1, x, F, f1, f2⟩ := pl
    exact ⟨n, b1, a1, x, F, mk_o hb (by decide) f1, mk_i hb (by decide) h49 f2⟩
  · obtain ⟨ou, ca, hrow, n1, n2, n3, n4⟩ := en i hi
    refine ⟨ou, ca, hrow, mk_o hb (by decide) n1, mk_q hb n2, ?_, fun j hj => ?_⟩
    · cases hc : sC s i with
      | none => rw [hc] at n3; exact n3
      | some fn => rw [hc] at n3; exact ⟨n3.1, n3.2.1, rv_mw hb h9 n3.2.2⟩
    · have := n4 j hj
      generalize sL s i j = l at this ⊢
      match l, this with
      | none, h => exact (show hrow j = none from h)
      | some (.inl z), h =>
        obtain ⟨a, g1, g2⟩ := h
        exact ⟨a, g1, rv_mw hb h9 g2⟩
      | some (.inr z), h =>
        obtain ⟨a, kv, g1, g2, g3, g4, g5, g6⟩ := h
        exact ⟨a, kv, g1, g2, mk_o hb (by decide) g3, rvO_mw hb h9 g4, g5, g6⟩
  · obtain ⟨fs, g1, g2⟩ := c5 i j a ha
    exact ⟨fs, mk_o hb (by decide) g1, g2⟩
  · obtain ⟨fs, g1⟩ := c6 n hn
    exact ⟨fs, mk_o hb (by decide) g1⟩
end JN
