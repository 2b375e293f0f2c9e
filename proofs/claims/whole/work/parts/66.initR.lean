/-! the reference is made -/
section IN
variable {dA : Nat → ClassId} {w W : ww_W} {a0 : Nat} {b : Nat → Nat} {O : Nat → Bool} {z : Int32} {K N d : Nat} {Q : zQ} {P : aP}
/-- an array of a field, just made -/
def mE0 (dA : Nat → ClassId) (k : Nat) : va_E := if k = 6 then .inl (dA 1, 8000, .inr (.inl (fun _ => 0))) else if k = 8 then .inl (dA 2, 1000, .inl (fun _ => 0)) else .inl (dA 0, mN k, .inl (fun _ => 0))
def rp (b : Nat → Nat) (O : Nat → Bool) (k : Nat) : Value := if O k = true then .ref (b k) else .null
def mFp (b : Nat → Nat) (O : Nat → Bool) (z : Int32) : List Value := [.int 0, rp b O 1, rp b O 2, rp b O 3, rp b O 4, .int 0, rp b O 6, rp b O 7, rp b O 8, .int 0, .long 0, rp b O 11, rp b O 12, rp b O 13, .int 0, rp b O 15, rp b O 16, rp b O 17, rp b O 18, rp b O 19, rp b O 20, rp b O 21, rp b O 22, rp b O 23, rp b O 24, .int 0, .int 0, .int 0, .int 0, .int 0, .int z, .int 0, rp b O 32]
def oAdd (O : Nat → Bool) (k : Nat) : Nat → Bool := fun j => if j = k then true else O j
def INI (dA : Nat → ClassId) (w : ww_W) (a0 : Nat) (b : Nat → Nat) (O : Nat → Bool) (z : Int32) (W : ww_W) : Prop := W a0 = some (.inr (C_Model, mFp b O z)) ∧ (∀ k : Nat, O k = true → W (b k) = some (mE0 dA k) ∧ b k ≠ a0 ∧ w (b k) = none) ∧ (∀ i j : Nat, O i = true → O j = true → b i = b j → i = j) ∧ ∀ a : Nat, a ≠ a0 → (∀ k : Nat, O k = true → a ≠ b k) → W a = w a
theorem INI_step {k q : Nat} (hset : (mFp b O z).set k (.ref q) = mFp (va_up b k q) (oAdd O k) z) (h : INI dA w a0 b O z W) (hk : O k = false) (hq : W q = none) : INI dA w a0 (va_up b k q) (oAdd O k) z (va_up (va_up W q (some (mE0 dA k))) a0 (some (.inr (C_Model, (mFp b O z).set k (.ref q))))) := by
  obtain ⟨h1, h2, h3, h4⟩ := h
  have hqa : q ≠ a0 := fun e => by rw [e, h1] at hq; cases hq
  have hqb : ∀ j : Nat, O j = true → b j ≠ q := fun j hj e => by
    have := (h2 j hj).1
    rw [e, hq] at this
    cases this
  have hO : ∀ j : Nat, oAdd O k j = true → j ≠ k → O j = true := fun j hj hn => by
    unfold oAdd at hj
    rw [if_neg hn] at hj
    exact hj
  have hwq : w q = none := by
    rw [← h4 q hqa (fun j hj e => hqb j hj e.symm)]
    exact hq
  refine ⟨by rw [va_up_self, hset], fun j hj => ?_, fun i j hi hj e => ?_, fun a ha hb => ?_⟩
  · by_cases hjk : j = k
    · subst hjk
      rw [va_up_self]
      exact ⟨by rw [va_up_ne _ _ hqa, va_up_self], hqa, hwq⟩
    · have hj' := hO j hj hjk
      obtain ⟨g1, g2, g3⟩ := h2 j hj'
      rw [va_up_ne _ _ hjk]
      exact ⟨by rw [va_up_ne _ _ g2, va_up_ne _ _ (hqb j hj')]; exact g1, g2, g3⟩
  · by_cases hik : i = k
    · by_cases hjk : j = k
      · rw [hik, hjk]
      · rw [hik, va_up_self, va_up_ne _ _ hjk] at e
        exact absurd e.symm (hqb j (hO j hj hjk))
    · by_cases hjk : j = k
      · rw [hjk, va_up_self, va_up_ne _ _ hik] at e
        exact absurd e (hqb i (hO i hi hik))
      · rw [va_up_ne _ _ hik, va_up_ne _ _ hjk] at e
        exact h3 i j (hO i hi hik) (hO j hj hjk) e
  · have hak : a ≠ q := by
      have := hb k (by unfold oAdd; rw [if_pos rfl])
      rw [va_up_self] at this
      exact this
    rw [va_up_ne _ _ ha, va_up_ne _ _ hak]
    refine h4 a ha (fun j hj => ?_)
    have hjk : j ≠ k := fun e => by rw [e, hk] at hj; cases hj
    have := hb j (by unfold oAdd; rw [if_neg hjk]; exact hj)
    rw [va_up_ne _ _ hjk] at this
    exact this
theorem set_1 {q : Nat} : (mFp b O z).set 1 (.ref q) = mFp (va_up b 1 q) (oAdd O 1) z := rfl
theorem set_2 {q : Nat} : (mFp b O z).set 2 (.ref q) = mFp (va_up b 2 q) (oAdd O 2) z := rfl
theorem set_3 {q : Nat} : (mFp b O z).set 3 (.ref q) = mFp (va_up b 3 q) (oAdd O 3) z := rfl
theorem set_4 {q : Nat} : (mFp b O z).set 4 (.ref q) = mFp (va_up b 4 q) (oAdd O 4) z := rfl
theorem set_6 {q : Nat} : (mFp b O z).set 6 (.ref q) = mFp (va_up b 6 q) (oAdd O 6) z := rfl
theorem set_7 {q : Nat} : (mFp b O z).set 7 (.ref q) = mFp (va_up b 7 q) (oAdd O 7) z := rfl
theorem set_8 {q : Nat} : (mFp b O z).set 8 (.ref q) = mFp (va_up b 8 q) (oAdd O 8) z := rfl
theorem set_11 {q : Nat} : (mFp b O z).set 11 (.ref q) = mFp (va_up b 11 q) (oAdd O 11) z := rfl
theorem set_12 {q : Nat} : (mFp b O z).set 12 (.ref q) = mFp (va_up b 12 q) (oAdd O 12) z := rfl
theorem set_13 {q : Nat} : (mFp b O z).set 13 (.ref q) = mFp (va_up b 13 q) (oAdd O 13) z := rfl
theorem set_15 {q : Nat} : (mFp b O z).set 15 (.ref q) = mFp (va_up b 15 q) (oAdd O 15) z := rfl
theorem set_16 {q : Nat} : (mFp b O z).set 16 (.ref q) = mFp (va_up b 16 q) (oAdd O 16) z := rfl
theorem set_17 {q : Nat} : (mFp b O z).set 17 (.ref q) = mFp (va_up b 17 q) (oAdd O 17) z := rfl
theorem set_18 {q : Nat} : (mFp b O z).set 18 (.ref q) = mFp (va_up b 18 q) (oAdd O 18) z := rfl
theorem set_19 {q : Nat} : (mFp b O z).set 19 (.ref q) = mFp (va_up b 19 q) (oAdd O 19) z := rfl
theorem set_20 {q : Nat} : (mFp b O z).set 20 (.ref q) = mFp (va_up b 20 q) (oAdd O 20) z := rfl
theorem set_21 {q : Nat} : (mFp b O z).set 21 (.ref q) = mFp (va_up b 21 q) (oAdd O 21) z := rfl
theorem set_22 {q : Nat} : (mFp b O z).set 22 (.ref q) = mFp (va_up b 22 q) (oAdd O 22) z := rfl
theorem set_23 {q : Nat} : (mFp b O z).set 23 (.ref q) = mFp (va_up b 23 q) (oAdd O 23) z := rfl
theorem set_24 {q : Nat} : (mFp b O z).set 24 (.ref q) = mFp (va_up b 24 q) (oAdd O 24) z := rfl
theorem set_32 {q : Nat} : (mFp b O z).set 32 (.ref q) = mFp (va_up b 32 q) (oAdd O 32) z := rfl
def mF0 : List Value := [.int 0, .null, .null, .null, .null, .int 0, .null, .null, .null, .int 0, .long 0, .null, .null, .null, .int 0, .null, .null, .null, .null, .null, .null, .null, .null, .null, .null, .int 0, .int 0, .int 0, .int 0, .int 0, .int 0, .int 0, .null]
def mS0 : mm := (va_up (fun _ => 0) 30 (-1), 0, fun _ => 0, fun _ _ => 0)
def mS1 : mm := jA (jA mS0 11 0 (-1)) 8 0 1
/-- the state at the beginning -/
def aS0 : aS := (fun _ => (fun _ => none, none, 0, false), 0, 0, 0, 0, 0, none)
theorem IDL_0 : IDL P 0 400 (none, -1) mS1 aS0 := by
  refine ⟨⟨⟨rfl, rfl, rfl, rfl, rfl, rfl, rfl, rfl⟩, fun e he => absurd he (Nat.not_lt_zero _), ⟨⟨0, by omega, rfl⟩, ⟨0, rfl, by omega, by omega, rfl, rfl, ⟨Nat.zero_le _, fun j hj => absurd hj (Nat.not_lt_zero _)⟩, fun k hk => absurd hk (Nat.not_lt_zero _)⟩, rfl, rfl, rfl⟩, fun i hi => ?_, ⟨fun i j _ _ => rfl, fun _ _ _ => rfl⟩, trivial, trivial, Nat.zero_le _, Nat.zero_le _, Nat.zero_le _, ?_, rfl, fun i h1 h2 => ?_, rfl, fun i j hh => by cases hh⟩, rfl⟩
  · have hi0 : i = 0 := Nat.le_zero.mp hi
    subst hi0
    exact ⟨rfl, rfl⟩
  · show 0 + 400 ≤ 400 + 0 ∧ 400 < 2 ^ 61
    omega
  · have : i ≤ 0 := h2
    omega
theorem INI_put (h : INI dA w a0 b O 0 W) : INI dA w a0 b O (-1) (va_up W a0 (some (.inr (C_Model, (mFp b O 0).set 30 (.int (-1)))))) := by
  obtain ⟨h1, h2, h3, h4⟩ := h
  refine ⟨by rw [va_up_self]; rfl, fun j hj => ?_, h3, fun a ha hb => ?_⟩
  · obtain ⟨g1, g2, g3⟩ := h2 j hj
    exact ⟨by rw [va_up_ne _ _ g2]; exact g1, g2, g3⟩
  · rw [va_up_ne _ _ ha]
    exact h4 a ha hb
theorem mN_small (k : Nat) : mN k < 2 ^ 20 := by
  unfold mN
  repeat' split
  all_goals omega
theorem ini_i {k pc kk nn : Nat} (kk' nn' : Nat) (h1 : zT dA M_VectorLanguageModel_init pc = some (znewi (ztys dA))) (h2 : zT dA M_VectorLanguageModel_init (pc + 2) = some (zput (.array .int) 9 k)) (hk : O k = false) (hc : mE0 dA k = .inl (dA 0, mN k, .inl (fun _ => 0))) (hk2 : k < 33) (hset : ∀ q : Nat, (mFp b O z).set k (.ref q) = mFp (va_up b k q) (oAdd O k) z) {n : Int32} (hn : n = nI (mN k)) (hkk : kk + 1 = kk') (hnn : nn + (mN k) = nn') (h3 : kk' ≤ K) (h4 : nn' ≤ N) (h : INI dA w a0 b O z W) (kn : ∀ (q : Nat) (W' : ww_W), INI dA w a0 (va_up b k q) (oAdd O k) z W' → zx dA d K N M_VectorLanguageModel_init (pc + 2 + 3) [some (.ref a0)] [] W' kk' nn' Q) : zx dA d K N M_VectorLanguageModel_init pc [some (.ref a0)] [.int n, .ref a0] W kk nn Q := by
  subst hkk
  subst hnn
  refine z_newi (j := mN k) h1 hn (mN_small k) h3 h4 (fun q hq => ?_)
  refine z_put h2 (zup_at hq h.1) hk2 ⟨rfl, rfl⟩ ?_
  rw [← hc]
  exact kn q _ (INI_step (hset q) h hk hq)
theorem ini_l {k pc kk nn : Nat} (kk' nn' : Nat) (h1 : zT dA M_VectorLanguageModel_init pc = some (znewl (ztys dA))) (h2 : zT dA M_VectorLanguageModel_init (pc + 2) = some (zput (.array .long) 9 k)) (hk : O k = false) (hc : mE0 dA k = .inl (dA 1, 8000, .inr (.inl (fun _ => 0)))) (hk2 : k < 33) (hset : ∀ q : Nat, (mFp b O z).set k (.ref q) = mFp (va_up b k q) (oAdd O k) z) {n : Int32} (hn : n = nI 8000) (hkk : kk + 1 = kk') (hnn : nn + 8000 = nn') (h3 : kk' ≤ K) (h4 : nn' ≤ N) (h : INI dA w a0 b O z W) (kn : ∀ (q : Nat) (W' : ww_W), INI dA w a0 (va_up b k q) (oAdd O k) z W' → zx dA d K N M_VectorLanguageModel_init (pc + 2 + 3) [some (.ref a0)] [] W' kk' nn' Q) : zx dA d K N M_VectorLanguageModel_init pc [some (.ref a0)] [.int n, .ref a0] W kk nn Q := by
  subst hkk
  subst hnn
  refine z_newl (j := 8000) h1 hn (by decide) h3 h4 (fun q hq => ?_)
  refine z_put h2 (zup_at hq h.1) hk2 ⟨rfl, rfl⟩ ?_
  rw [← hc]
  exact kn q _ (INI_step (hset q) h hk hq)
theorem ini_z {k pc kk nn : Nat} (kk' nn' : Nat) (h1 : zT dA M_VectorLanguageModel_init pc = some (znewz (ztys dA))) (h2 : zT dA M_VectorLanguageModel_init (pc + 2) = some (zput (.array .boolean) 9 k)) (hk : O k = false) (hc : mE0 dA k = .inl (dA 2, 1000, .inl (fun _ => 0))) (hk2 : k < 33) (hset : ∀ q : Nat, (mFp b O z).set k (.ref q) = mFp (va_up b k q) (oAdd O k) z) {n : Int32} (hn : n = nI 1000) (hkk : kk + 1 = kk') (hnn : nn + 1000 = nn') (h3 : kk' ≤ K) (h4 : nn' ≤ N) (h : INI dA w a0 b O z W) (kn : ∀ (q : Nat) (W' : ww_W), INI dA w a0 (va_up b k q) (oAdd O k) z W' → zx dA d K N M_VectorLanguageModel_init (pc + 2 + 3) [some (.ref a0)] [] W' kk' nn' Q) : zx dA d K N M_VectorLanguageModel_init pc [some (.ref a0)] [.int n, .ref a0] W kk nn Q := by
  subst hkk
  subst hnn
  refine z_newz (j := 1000) h1 hn (by decide) h3 h4 (fun q hq => ?_)
  refine z_put h2 (zup_at hq h.1) hk2 ⟨rfl, rfl⟩ ?_
  rw [← hc]
  exact kn q _ (INI_step (hset q) h hk hq)
/-- all is made: the world -/
theorem INI_mw (h : INI dA w a0 b O (-1) W) (hO : ∀ k : Nat, O k = true ↔ (mO k = true ∧ k ≠ 0)) : W = mw dA (va_up b 0 a0) w mS0 ∧ mB (va_up b 0 a0) ∧ ∀ k : Nat, mO k = true → k ≠ 0 → w (va_up b 0 a0 k) = none := by
  have hfs : mFp b O (-1) = mF (va_up b 0 a0) mS0 := by
    unfold mFp rp
    simp only [(hO 1).mpr ⟨rfl, by decide⟩, (hO 2).mpr ⟨rfl, by decide⟩, (hO 3).mpr ⟨rfl, by decide⟩, (hO 4).mpr ⟨rfl, by decide⟩, (hO 6).mpr ⟨rfl, by decide⟩, (hO 7).mpr ⟨rfl, by decide⟩, (hO 8).mpr ⟨rfl, by decide⟩, (hO 11).mpr ⟨rfl, by decide⟩, (hO 12).mpr ⟨rfl, by decide⟩, (hO 13).mpr ⟨rfl, by decide⟩, (hO 15).mpr ⟨rfl, by decide⟩, (hO 16).mpr ⟨rfl, by decide⟩, (hO 17).mpr ⟨rfl, by decide⟩, (hO 18).mpr ⟨rfl, by decide⟩, (hO 19).mpr ⟨rfl, by decide⟩, (hO 20).mpr ⟨rfl, by decide⟩, (hO 21).mpr ⟨rfl, by decide⟩, (hO 22).mpr ⟨rfl, by decide⟩, (hO 23).mpr ⟨rfl, by decide⟩, (hO 24).mpr ⟨rfl, by decide⟩, (hO 32).mpr ⟨rfl, by decide⟩, if_true]
    rfl
  obtain ⟨h1, h2, h3, h4⟩ := h
  rw [hfs] at h1
  have hB : mB (va_up b 0 a0) := by
    intro i j hi hj e
    by_cases hi0 : i = 0
    · by_cases hj0 : j = 0
      · rw [hi0, hj0]
      · rw [hi0, va_up_self, va_up_ne _ _ hj0] at e
        exact absurd e.symm (h2 j ((hO j).mpr ⟨hj, hj0⟩)).2.1
    · by_cases hj0 : j = 0
      · rw [hj0, va_up_self, va_up_ne _ _ hi0] at e
        exact absurd e (h2 i ((hO i).mpr ⟨hi, hi0⟩)).2.1
      · rw [va_up_ne _ _ hi0, va_up_ne _ _ hj0] at e
        exact h3 i j ((hO i).mpr ⟨hi, hi0⟩) ((hO j).mpr ⟨hj, hj0⟩) e
  refine ⟨?_, hB, fun k hk hk0 => ?_⟩
  · funext a
    by_cases ha : ∃ j : Nat, mO j = true ∧ a = va_up b 0 a0 j
    · obtain ⟨j, hj, rfl⟩ := ha
      rw [mw_at hB hj (mO_lt hj)]
      by_cases hj0 : j = 0
      · subst hj0
        rw [va_up_self, h1]
        rfl
      · rw [va_up_ne _ _ hj0, (h2 j ((hO j).mpr ⟨hj, hj0⟩)).1]
        unfold mE mE0
        rw [if_neg hj0]
        rfl
    · have hne : ∀ j : Nat, mO j = true → a ≠ va_up b 0 a0 j := fun j hj q => ha ⟨j, hj, q⟩
      rw [mw_out hne]
      refine h4 a ?_ (fun k hk => ?_)
      · have := hne 0 rfl
        rw [va_up_self] at this
        exact this
      · obtain ⟨g1, g2⟩ := (hO k).mp hk
        have := hne k g1
        rw [va_up_ne _ _ g2] at this
        exact this
  · rw [va_up_ne _ _ hk0]
    exact (h2 k ((hO k).mpr ⟨hk, hk0⟩)).2.2
theorem oAll (k : Nat) : (oAdd (oAdd (oAdd (oAdd (oAdd (oAdd (oAdd (oAdd (oAdd (oAdd (oAdd (oAdd (oAdd (oAdd (oAdd (oAdd (oAdd (oAdd (oAdd (oAdd (oAdd (fun _ => false) 1) 2) 3) 4) 6) 7) 8) 11) 12) 13) 15) 16) 17) 18) 19) 20) 21) 22) 23) 24) 32) k = true ↔ (mO k = true ∧ k ≠ 0) := by
  by_cases hk : k < 33
  · revert k
    decide
  · constructor
    · intro h
      unfold oAdd at h
      simp (config := { decide := false }) only [] at h
      repeat rw [if_neg (by omega)] at h
      cases h
    · intro h
      exact absurd (mO_lt h.1) hk
set_option maxRecDepth 100000 in
theorem r_initR (hd : 1 ≤ d) (hK : 21 ≤ K) (hN : 17109 ≤ N) (ha : w a0 = some (.inr (C_Model, mF0))) (hQ : ∀ b : Nat → Nat, mB b → b 0 = a0 → (∀ k : Nat, mO k = true → k ≠ 0 → w (b k) = none) → Q (.inl none) (mw dA b w mS1) 21 17109) : zx dA d K N M_VectorLanguageModel_init 0 (zargs 1 [.ref a0]) [] w 0 0 Q := by
  refine z_i rfl rfl ?_
  refine z_obj rfl (Nat.le_of_ble_eq_true rfl) hd ?_
  have h0 : INI dA w a0 (fun _ => a0) (fun _ => false) 0 w := ⟨ha, fun k hk => (by cases hk), fun i j hi => (by cases hi), fun a _ _ => rfl⟩
  refine z_i rfl rfl ?_
  refine z_i rfl rfl ?_
  refine ini_i (k := 1) 1 120 rfl rfl rfl rfl (by decide) (fun _ => set_1) rfl rfl (by decide) (by omega) (by omega) h0 (fun q1 W1 h1 => ?_)
  refine z_i rfl rfl ?_
  refine z_i rfl rfl ?_
  refine ini_i (k := 2) 2 240 rfl rfl rfl rfl (by decide) (fun _ => set_2) rfl rfl (by decide) (by omega) (by omega) h1 (fun q2 W2 h2 => ?_)
  refine z_i rfl rfl ?_
  refine z_i rfl rfl ?_
  refine ini_i (k := 3) 3 360 rfl rfl rfl rfl (by decide) (fun _ => set_3) rfl rfl (by decide) (by omega) (by omega) h2 (fun q3 W3 h3 => ?_)
  refine z_i rfl rfl ?_
  refine z_i rfl rfl ?_
  refine ini_i (k := 4) 4 480 rfl rfl rfl rfl (by decide) (fun _ => set_4) rfl rfl (by decide) (by omega) (by omega) h3 (fun q4 W4 h4 => ?_)
  refine z_i rfl rfl ?_
  refine z_i rfl rfl ?_
  refine ini_l (k := 6) 5 8480 rfl rfl rfl rfl (by decide) (fun _ => set_6) rfl rfl (by decide) (by omega) (by omega) h4 (fun q6 W6 h5 => ?_)
  refine z_i rfl rfl ?_
  refine z_i rfl rfl ?_
  refine ini_i (k := 7) 6 9480 rfl rfl rfl rfl (by decide) (fun _ => set_7) rfl rfl (by decide) (by omega) (by omega) h5 (fun q7 W7 h6 => ?_)
  refine z_i rfl rfl ?_
  refine z_i rfl rfl ?_
  refine ini_z (k := 8) 7 10480 rfl rfl rfl rfl (by decide) (fun _ => set_8) rfl rfl (by decide) (by omega) (by omega) h6 (fun q8 W8 h7 => ?_)
  refine z_i rfl rfl ?_
  refine z_i rfl rfl ?_
  refine ini_i (k := 11) 8 10571 rfl rfl rfl rfl (by decide) (fun _ => set_11) rfl rfl (by decide) (by omega) (by omega) h7 (fun q11 W11 h8 => ?_)
  refine z_i rfl rfl ?_
  refine z_i rfl rfl ?_
  refine ini_i (k := 12) 9 10662 rfl rfl rfl rfl (by decide) (fun _ => set_12) rfl rfl (by decide) (by omega) (by omega) h8 (fun q12 W12 h9 => ?_)
  refine z_i rfl rfl ?_
  refine z_i rfl rfl ?_
  refine ini_i (k := 13) 10 10753 rfl rfl rfl rfl (by decide) (fun _ => set_13) rfl rfl (by decide) (by omega) (by omega) h9 (fun q13 W13 h10 => ?_)
  refine z_i rfl rfl ?_
  refine z_i rfl rfl ?_
  refine ini_i (k := 15) 11 11663 rfl rfl rfl rfl (by decide) (fun _ => set_15) rfl rfl (by decide) (by omega) (by omega) h10 (fun q15 W15 h11 => ?_)
  refine z_i rfl rfl ?_
  refine z_i rfl rfl ?_
  refine ini_i (k := 16) 12 12573 rfl rfl rfl rfl (by decide) (fun _ => set_16) rfl rfl (by decide) (by omega) (by omega) h11 (fun q16 W16 h12 => ?_)
  refine z_i rfl rfl ?_
  refine z_i rfl rfl ?_
  refine ini_i (k := 17) 13 13483 rfl rfl rfl rfl (by decide) (fun _ => set_17) rfl rfl (by decide) (by omega) (by omega) h12 (fun q17 W17 h13 => ?_)
  refine z_i rfl rfl ?_
  refine z_i rfl rfl ?_
  refine ini_i (k := 18) 14 14393 rfl rfl rfl rfl (by decide) (fun _ => set_18) rfl rfl (by decide) (by omega) (by omega) h13 (fun q18 W18 h14 => ?_)
  refine z_i rfl rfl ?_
  refine z_i rfl rfl ?_
  refine ini_i (k := 19) 15 14843 rfl rfl rfl rfl (by decide) (fun _ => set_19) rfl rfl (by decide) (by omega) (by omega) h14 (fun q19 W19 h15 => ?_)
  refine z_i rfl rfl ?_
  refine z_i rfl rfl ?_
  refine ini_i (k := 20) 16 15293 rfl rfl rfl rfl (by decide) (fun _ => set_20) rfl rfl (by decide) (by omega) (by omega) h15 (fun q20 W20 h16 => ?_)
  refine z_i rfl rfl ?_
  refine z_i rfl rfl ?_
  refine ini_i (k := 21) 17 15743 rfl rfl rfl rfl (by decide) (fun _ => set_21) rfl rfl (by decide) (by omega) (by omega) h16 (fun q21 W21 h17 => ?_)
  refine z_i rfl rfl ?_
  refine z_i rfl rfl ?_
  refine ini_i (k := 22) 18 16193 rfl rfl rfl rfl (by decide) (fun _ => set_22) rfl rfl (by decide) (by omega) (by omega) h17 (fun q22 W22 h18 => ?_)
  refine z_i rfl rfl ?_
  refine z_i rfl rfl ?_
  refine ini_i (k := 23) 19 16643 rfl rfl rfl rfl (by decide) (fun _ => set_23) rfl rfl (by decide) (by omega) (by omega) h18 (fun q23 W23 h19 => ?_)
  refine z_i rfl rfl ?_
  refine z_i rfl rfl ?_
  refine ini_i (k := 24) 20 17093 rfl rfl rfl rfl (by decide) (fun _ => set_24) rfl rfl (by decide) (by omega) (by omega) h19 (fun q24 W24 h20 => ?_)
  refine z_i rfl rfl ?_
  refine z_i rfl rfl ?_
  refine z_put rfl h20.1 (show 30 < 33 by decide) ⟨rfl, rfl⟩ ?_
  have hp := INI_put h20
  generalize va_up W24 a0 _ = Wp at hp ⊢
  refine z_i rfl rfl ?_
  refine z_i rfl rfl ?_
  refine ini_i (k := 32) 21 17109 rfl rfl rfl rfl (by decide) (fun _ => set_32) rfl rfl (by decide) (by omega) (by omega) hp (fun q32 W32 h21 => ?_)
  obtain ⟨g1, g2, g3⟩ := INI_mw h21 oAll
  subst g1
  refine z_i rfl rfl ?_
  refine m_gt g2 rfl rfl ?_
  refine z_i rfl rfl ?_
  refine z_i rfl rfl ?_
  refine m_st g2 (j := 0) rfl rfl rfl (by decide) ?_
  refine z_i rfl rfl ?_
  refine m_gt g2 rfl rfl ?_
  refine z_i rfl rfl ?_
  refine z_i rfl rfl ?_
  refine m_zst g2 (j := 0) rfl (Or.inr rfl) rfl (by decide) ?_
  exact z_retV rfl (by omega) (by omega) (hQ _ g2 rfl g3)
end IN
