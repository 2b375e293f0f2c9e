/-! the reference's object: its numbers, its arrays, as one state; the world that holds it -/
/-- numbers by field, the serial, the store, arrays by field -/
abbrev mm : Type := (Nat → Int32) × Int64 × (Nat → Int64) × (Nat → Nat → Int32)
def mI (S : mm) (k : Nat) : Int32 := S.1 k
def mQ (S : mm) : Int64 := S.2.1
def mL (S : mm) (p : Nat) : Int64 := S.2.2.1 p
def mA (S : mm) (k p : Nat) : Int32 := S.2.2.2 k p
def jI (S : mm) (k : Nat) (x : Int32) : mm := (va_up S.1 k x, S.2)
def jQ (S : mm) (x : Int64) : mm := (S.1, x, S.2.2)
def jL (S : mm) (p : Nat) (x : Int64) : mm := (S.1, S.2.1, vp_updL S.2.2.1 p x, S.2.2.2)
def jA (S : mm) (k p : Nat) (x : Int32) : mm := (S.1, S.2.1, S.2.2.1, va_up S.2.2.2 k (upd (S.2.2.2 k) p x))
def mF (b : Nat → Nat) (S : mm) : List Value := [.int (S.1 0), .ref (b 1), .ref (b 2), .ref (b 3), .ref (b 4), .int (S.1 5), .ref (b 6), .ref (b 7), .ref (b 8), .int (S.1 9), .long S.2.1, .ref (b 11), .ref (b 12), .ref (b 13), .int (S.1 14), .ref (b 15), .ref (b 16), .ref (b 17), .ref (b 18), .ref (b 19), .ref (b 20), .ref (b 21), .ref (b 22), .ref (b 23), .ref (b 24), .int (S.1 25), .int (S.1 26), .int (S.1 27), .int (S.1 28), .int (S.1 29), .int (S.1 30), .int (S.1 31), .ref (b 32)]
/-- how long the array of a field is -/
def mN (k : Nat) : Nat := if k ≤ 4 then 120 else if k = 6 then 8000 else if k ≤ 8 then 1000 else if k ≤ 13 then 91 else if k ≤ 18 then 910 else if k ≤ 24 then 450 else 16
/-- fields that are objects: the model itself is 0 -/
def mO (k : Nat) : Bool := k ≤ 4 || (6 ≤ k && k ≤ 8) || (11 ≤ k && k ≤ 13) || (15 ≤ k && k ≤ 24) || k == 32
/-- of ints; numbers -/
def mOi (k : Nat) : Bool := mO k && !(k == 0) && !(k == 6) && !(k == 8)
def mOn (k : Nat) : Bool := k ≤ 31 && !(mO k) && !(k == 10) || k == 0
def mE (dA : Nat → ClassId) (b : Nat → Nat) (S : mm) (k : Nat) : va_E := if k = 0 then .inr (C_Model, mF b S) else if k = 6 then .inl (dA 1, 8000, .inr (.inl S.2.2.1)) else if k = 8 then .inl (dA 2, 1000, .inl (S.2.2.2 8)) else .inl (dA 0, mN k, .inl (S.2.2.2 k))
def mwl (b : Nat → Nat) (E : Nat → va_E) (w : ww_W) : Nat → ww_W
  | 0 => w
  | k + 1 => if mO k then va_up (mwl b E w k) (b k) (some (E k)) else mwl b E w k
def mB (b : Nat → Nat) : Prop := ∀ i j : Nat, mO i = true → mO j = true → b i = b j → i = j
theorem mwl_out {b : Nat → Nat} {E : Nat → va_E} {w : ww_W} {a : Nat} : ∀ n : Nat, (∀ k : Nat, k < n → mO k = true → a ≠ b k) → mwl b E w n a = w a
  | 0, _ => rfl
  | n + 1, h => by
    unfold mwl
    by_cases hn : mO n = true
    · rw [if_pos hn, va_up_ne _ _ (h n (by omega) hn)]
      exact mwl_out n (fun k hk => h k (by omega))
    · rw [if_neg hn]
      exact mwl_out n (fun k hk => h k (by omega))
theorem mwl_at {b : Nat → Nat} {E : Nat → va_E} {w : ww_W} (hb : mB b) {k : Nat} (ho : mO k = true) : ∀ n : Nat, k < n → mwl b E w n (b k) = some (E k)
  | 0, h => by omega
  | n + 1, h => by
    unfold mwl
    by_cases hk : k = n
    · subst hk
      rw [if_pos ho, va_up_self]
    · by_cases hn : mO n = true
      · rw [if_pos hn, va_up_ne _ _ (fun q => hk (hb _ _ ho hn q))]
        exact mwl_at hb ho n (by omega)
      · rw [if_neg hn]
        exact mwl_at hb ho n (by omega)
def mw (dA : Nat → ClassId) (b : Nat → Nat) (w : ww_W) (S : mm) : ww_W := mwl b (mE dA b S) w 33
section MW
variable {dA : Nat → ClassId} {b : Nat → Nat} {w : ww_W} {S S' : mm}
theorem mw_at (hb : mB b) {k : Nat} (ho : mO k = true) (hk : k < 33) : mw dA b w S (b k) = some (mE dA b S k) := mwl_at hb ho 33 hk
theorem mw_out {a : Nat} (h : ∀ k : Nat, mO k = true → a ≠ b k) : mw dA b w S a = w a := mwl_out 33 (fun k _ => h k)
theorem mw_up (hb : mB b) {k : Nat} (ho : mO k = true) (hk : k < 33) {e : va_E} (h1 : mE dA b S' k = e) (h2 : ∀ j : Nat, j ≠ k → mE dA b S' j = mE dA b S j) : va_up (mw dA b w S) (b k) (some e) = mw dA b w S' := by
  funext a
  by_cases ha : ∃ j : Nat, mO j = true ∧ j < 33 ∧ a = b j
  · obtain ⟨j, q1, q2, rfl⟩ := ha
    rw [mw_at hb q1 q2]
    by_cases hj : j = k
    · subst hj
      rw [va_up_self, h1]
    · rw [va_up_ne _ _ (fun q => hj (hb _ _ q1 ho q)), mw_at hb q1 q2, h2 j hj]
  · have hk33 : ∀ j : Nat, mO j = true → j < 33 := fun j hj => by
      simp only [mO, Bool.or_eq_true, Bool.and_eq_true, decide_eq_true_eq, beq_iff_eq] at hj
      omega
    have hne : ∀ j : Nat, mO j = true → a ≠ b j := fun j hj q => ha ⟨j, hj, hk33 j hj, q⟩
    rw [va_up_ne _ _ (hne k ho), mw_out hne, mw_out hne]
theorem mO_lt {k : Nat} (hk : mO k = true) : k < 33 := by
  simp only [mO, Bool.or_eq_true, Bool.and_eq_true, decide_eq_true_eq, beq_iff_eq] at hk
  omega
theorem mOi_0 {k : Nat} (h : mOi k = true) : mO k = true ∧ ¬ k = 0 ∧ ¬ k = 6 ∧ ¬ k = 8 := by
  simp only [mOi, Bool.and_eq_true, Bool.not_eq_true', beq_eq_false_iff_ne, ne_eq] at h
  exact ⟨h.1.1.1, h.1.1.2, h.1.2, h.2⟩
theorem m_obj (hb : mB b) : mw dA b w S (b 0) = some (.inr (C_Model, mF b S)) := mw_at hb rfl (by decide)
theorem m_int (hb : mB b) {k : Nat} (hk : mOi k = true) : mw dA b w S (b k) = some (.inl (dA 0, mN k, .inl (S.2.2.2 k))) := by
  obtain ⟨h1, h2, h3, h4⟩ := mOi_0 hk
  rw [mw_at hb h1 (mO_lt h1)]
  simp [mE, h2, h3, h4]
theorem m_long (hb : mB b) : mw dA b w S (b 6) = some (.inl (dA 1, 8000, .inr (.inl S.2.2.1))) := mw_at hb rfl (by decide)
theorem m_bool (hb : mB b) : mw dA b w S (b 8) = some (.inl (dA 2, 1000, .inl (S.2.2.2 8))) := mw_at hb rfl (by decide)
theorem mF_set {k : Nat} {x : Int32} (hk : mOn k = true) : (mF b S).set k (.int x) = mF b (jI S k x) := by
  have : k = 0 ∨ k = 5 ∨ k = 9 ∨ k = 14 ∨ k = 25 ∨ k = 26 ∨ k = 27 ∨ k = 28 ∨ k = 29 ∨ k = 30 ∨ k = 31 := by
    simp only [mOn, mO, Bool.or_eq_true, Bool.and_eq_true, Bool.not_eq_true', Bool.or_eq_false_iff, Bool.and_eq_false_iff, decide_eq_true_eq, decide_eq_false_iff_not, beq_iff_eq, beq_eq_false_iff_ne, ne_eq] at hk
    omega
  rcases this with rfl | rfl | rfl | rfl | rfl | rfl | rfl | rfl | rfl | rfl | rfl <;> rfl
theorem mE_I {k j : Nat} {x : Int32} (h : j ≠ 0) : mE dA b (jI S k x) j = mE dA b S j := by
  simp [mE, h, jI]
theorem m_upI (hb : mB b) {k : Nat} {x : Int32} (hk : mOn k = true) : va_up (mw dA b w S) (b 0) (some (.inr (C_Model, (mF b S).set k (.int x)))) = mw dA b w (jI S k x) :=
  mw_up hb rfl (by decide) (by rw [mF_set hk]; rfl) (fun _ h => mE_I h)
theorem m_upQ (hb : mB b) {x : Int64} : va_up (mw dA b w S) (b 0) (some (.inr (C_Model, (mF b S).set 10 (.long x)))) = mw dA b w (jQ S x) :=
  mw_up hb rfl (by decide) rfl (fun _ h => by simp [mE, h, jQ])
theorem m_upA (hb : mB b) {k p : Nat} {x : Int32} (hk : mOi k = true) : va_up (mw dA b w S) (b k) (some (.inl (dA 0, mN k, .inl (upd (S.2.2.2 k) p x)))) = mw dA b w (jA S k p x) := by
  obtain ⟨h1, h2, h3, h4⟩ := mOi_0 hk
  refine mw_up hb h1 (mO_lt h1) (by simp [mE, h2, h3, h4, jA, va_up_self]) (fun j hj => ?_)
  have h8 : va_up S.2.2.2 k (upd (S.2.2.2 k) p x) 8 = S.2.2.2 8 := va_up_ne _ _ (fun q => h4 q.symm)
  simp only [mE, jA]
  by_cases j0 : j = 0
  · subst j0; rfl
  · rw [if_neg j0, if_neg j0, h8, va_up_ne _ _ hj]
theorem m_upZ (hb : mB b) {p : Nat} {x : Int32} : va_up (mw dA b w S) (b 8) (some (.inl (dA 2, 1000, .inl (upd (S.2.2.2 8) p x)))) = mw dA b w (jA S 8 p x) := by
  refine mw_up hb rfl (by decide) (by simp [mE, jA, va_up_self]) (fun j hj => ?_)
  simp only [mE, jA]
  by_cases j0 : j = 0
  · subst j0; rfl
  · rw [if_neg j0, if_neg j0, va_up_ne _ _ hj]
    simp [hj]
theorem m_upL (hb : mB b) {p : Nat} {x : Int64} : va_up (mw dA b w S) (b 6) (some (.inl (dA 1, 8000, .inr (.inl (vp_updL S.2.2.1 p x))))) = mw dA b w (jL S p x) := by
  refine mw_up hb rfl (by decide) (by simp [mE, jL]) (fun j hj => ?_)
  simp only [mE, jL]
  by_cases j0 : j = 0
  · subst j0; rfl
  · rw [if_neg j0, if_neg j0, if_neg hj, if_neg hj]
end MW
/-! the steps over it -/
section MS
variable {dA : Nat → ClassId} {b : Nat → Nat} {w : ww_W} {S : mm} {d K N μ pc : Nat} {L : zV} {st r : List Value} {k n : Nat} {Q : zQ}
theorem m_gt (hb : mB b) {kf : Nat} {v : Value} (h : zT dA μ pc = some (zget 9 kf)) (hv : (mF b S)[kf]? = some v) (kk : zx dA d K N μ (pc + 3) L (v :: r) (mw dA b w S) k n Q) : zx dA d K N μ pc L (.ref (b 0) :: r) (mw dA b w S) k n Q := z_get h (m_obj hb) hv kk
theorem mOn_lt {kf : Nat} (hk : mOn kf = true) : kf < 33 := by
  simp only [mOn, Bool.or_eq_true, Bool.and_eq_true, decide_eq_true_eq, beq_iff_eq] at hk
  omega
theorem m_pt (hb : mB b) {kf : Nat} {x : Int32} (h : zT dA μ pc = some (zput .int 9 kf)) (hk : mOn kf = true) (kk : zx dA d K N μ (pc + 3) L r (mw dA b w (jI S kf x)) k n Q) : zx dA d K N μ pc L (.int x :: .ref (b 0) :: r) (mw dA b w S) k n Q := by
  refine z_put h (m_obj hb) (mOn_lt hk) ⟨rfl, rfl⟩ ?_
  rw [m_upI hb hk]
  exact kk
theorem m_ptQ (hb : mB b) {x : Int64} (h : zT dA μ pc = some (zput .long 9 10)) (kk : zx dA d K N μ (pc + 3) L r (mw dA b w (jQ S x)) k n Q) : zx dA d K N μ pc L (.long x :: .ref (b 0) :: r) (mw dA b w S) k n Q := by
  refine z_put h (m_obj hb) (show 10 < 33 by decide) ⟨rfl, rfl⟩ ?_
  rw [m_upQ hb]
  exact kk
theorem mN_lt (k : Nat) : mN k < 2 ^ 31 := by
  unfold mN
  repeat' split
  all_goals omega
theorem m_ld (hb : mB b) {kf j : Nat} {i : Int32} (h : zT dA μ pc = some (ziald (ztys dA))) (hk : mOi kf = true) (hi : i = nI j) (hj : j < mN kf) (kk : zx dA d K N μ (pc + 1) L (.int (S.2.2.2 kf j) :: r) (mw dA b w S) k n Q) : zx dA d K N μ pc L (.int i :: .ref (b kf) :: r) (mw dA b w S) k n Q := z_iald h (m_int hb hk) hi hj (mN_lt kf) kk
theorem m_st (hb : mB b) {kf j : Nat} {i x : Int32} (h : zT dA μ pc = some (ziast (ztys dA))) (hk : mOi kf = true) (hi : i = nI j) (hj : j < mN kf) (kk : zx dA d K N μ (pc + 1) L r (mw dA b w (jA S kf j x)) k n Q) : zx dA d K N μ pc L (.int x :: .int i :: .ref (b kf) :: r) (mw dA b w S) k n Q := by
  refine z_iast h (m_int hb hk) hi hj (mN_lt kf) ?_
  rw [m_upA hb hk]
  exact kk
theorem m_ldv (hb : mB b) {kf j : Nat} {i y : Int32} (h : zT dA μ pc = some (ziald (ztys dA))) (hk : mOi kf = true) (hi : i = nI j) (hj : j < mN kf) (hv : S.2.2.2 kf j = y) (kk : zx dA d K N μ (pc + 1) L (.int y :: r) (mw dA b w S) k n Q) : zx dA d K N μ pc L (.int i :: .ref (b kf) :: r) (mw dA b w S) k n Q := m_ld hb h hk hi hj (by rw [hv]; exact kk)
theorem m_zld (hb : mB b) {j : Nat} {i : Int32} (h : zT dA μ pc = some (zzald (ztys dA))) (hi : i = nI j) (hj : j < 1000) (kk : zx dA d K N μ (pc + 1) L (.int (S.2.2.2 8 j) :: r) (mw dA b w S) k n Q) : zx dA d K N μ pc L (.int i :: .ref (b 8) :: r) (mw dA b w S) k n Q := z_zald h (m_bool hb) hi hj (by decide) kk
theorem m_zst (hb : mB b) {j : Nat} {i x : Int32} (h : zT dA μ pc = some (zzast (ztys dA))) (hx : x = 0 ∨ x = 1) (hi : i = nI j) (hj : j < 1000) (kk : zx dA d K N μ (pc + 1) L r (mw dA b w (jA S 8 j x)) k n Q) : zx dA d K N μ pc L (.int x :: .int i :: .ref (b 8) :: r) (mw dA b w S) k n Q := by
  refine z_zast h hx (m_bool hb) hi hj (by decide) ?_
  rw [m_upZ hb]
  exact kk
theorem m_lld (hb : mB b) {j : Nat} {i : Int32} (h : zT dA μ pc = some (zlald (ztys dA))) (hi : i = nI j) (hj : j < 8000) (kk : zx dA d K N μ (pc + 1) L (.long (S.2.2.1 j) :: r) (mw dA b w S) k n Q) : zx dA d K N μ pc L (.int i :: .ref (b 6) :: r) (mw dA b w S) k n Q := z_lald h (m_long hb) hi hj (by decide) kk
theorem m_lst (hb : mB b) {j : Nat} {i : Int32} {x : Int64} (h : zT dA μ pc = some (zlast (ztys dA))) (hi : i = nI j) (hj : j < 8000) (kk : zx dA d K N μ (pc + 1) L r (mw dA b w (jL S j x)) k n Q) : zx dA d K N μ pc L (.long x :: .int i :: .ref (b 6) :: r) (mw dA b w S) k n Q := by
  refine z_last h (m_long hb) hi hj (by decide) ?_
  rw [m_upL hb]
  exact kk
end MS
