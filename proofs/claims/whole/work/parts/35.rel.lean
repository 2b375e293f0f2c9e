/-! how the reference's state stands for the pure one -/
/-- frames: an expression being worked on (expression, environment, state, two values); an argument's link; a call's link -/
abbrev fW : Type := Nat × Nat × Nat × Option aV × Option aV
abbrev fF : Type := fW ⊕ ((Nat × Nat) ⊕ Nat)
abbrev fw (e i st : Nat) (a b : Option aV) : fF := .inl (e, i, st, a, b)
abbrev fa (i j : Nat) : fF := .inr (.inl (i, j))
abbrev fc (i : Nat) : fF := .inr (.inr i)
def wk : List fF → Nat
  | [] => 0
  | .inl _ :: F => wk F + 1
  | .inr _ :: F => wk F
def bF : List fF → Prop
  | [] => True
  | f :: F => F.length + 1 ≤ 2 * wk (f :: F) + 1 ∧ bF F
/-- an argument being evaluated, or what was assigned meanwhile -/
def lOK : aL → Prop
  | none => False
  | some (.inl _) => True
  | some (.inr a) => a.2.2.1 = true
def lK (s : aS) (F : List fF) : Prop := ∀ i j : Nat, fa i j ∈ F → lOK (sL s i j)
/-- the result: its value, its number -/
abbrev rP : Type := Option aV × Int32
section MR
variable (P : aP) (mk : Nat)
/-- the table's place j stands for v -/
def VC (n : Nat) (S : mm) (j : Nat) : aV → Prop
  | .inl xs => S.2.2.2 7 j = nI xs.length ∧ okX xs ∧ ∀ k : Nat, k < xs.length → atS S.2.2.1 j k = p_at xs k
  | .inr fn => S.2.2.2 7 j = -1 ∧ S.2.2.1 (8 * j) = lN fn.1 ∧ S.2.2.1 (8 * j + 1) = lN fn.2.1 ∧ S.2.2.1 (8 * j + 2) = lN fn.2.2 ∧ fn.1 < mk ∧ kd P fn.1 = 19 ∧ fn.2.1 ≤ n ∧ fn.2.2 < 2 ^ 62
/-- the number x stands for v; it is not q -/
def VR (n q : Nat) (S : mm) (x : Int32) (v : aV) : Prop := ∃ j : Nat, x = nI j ∧ j < 1000 ∧ j ≠ q ∧ S.2.2.2 8 j = 1 ∧ VC P mk n S j v
def VO (n q : Nat) (S : mm) (x : Int32) : Option aV → Prop
  | none => x = -1
  | some v => VR P mk n q S x v
def SL (n q : Nat) (S : mm) (k : Nat) : aL → Prop
  | none => S.2.2.2 15 k = 0
  | some (.inl v) => S.2.2.2 15 k = 1 ∧ VR P mk n q S (S.2.2.2 16 k) v
  | some (.inr (e, i, true, o)) => S.2.2.2 15 k = 3 ∧ o = none ∧ S.2.2.2 17 k = nI e ∧ S.2.2.2 18 k = nI i ∧ e < mk ∧ i ≤ n
  | some (.inr (e, i, false, none)) => S.2.2.2 15 k = 2 ∧ S.2.2.2 17 k = nI e ∧ S.2.2.2 18 k = nI i ∧ e < mk ∧ i ≤ n
  | some (.inr (_, _, false, some v)) => S.2.2.2 15 k = 4 ∧ VR P mk n q S (S.2.2.2 16 k) v
def FR1 (n q : Nat) (S : mm) (p : Nat) (x : Option aV) : fF → Prop
  | .inl (e, i, st, a, b) => S.2.2.2 19 p = nI e ∧ S.2.2.2 20 p = nI i ∧ S.2.2.2 21 p = nI st ∧ VO P mk n q S (S.2.2.2 22 p) a ∧ VO P mk n q S (S.2.2.2 23 p) b ∧ VO P mk n q S (S.2.2.2 24 p) x ∧ e < mk ∧ i ≤ n ∧ st ≤ 3
  | .inr (.inl (i, j)) => S.2.2.2 19 p = -1 ∧ S.2.2.2 21 p = nI (10 * i + j) ∧ S.2.2.2 22 p = -1 ∧ S.2.2.2 23 p = -1 ∧ S.2.2.2 24 p = -1 ∧ i ≤ n ∧ j < 10
  | .inr (.inr i) => S.2.2.2 19 p = -2 ∧ S.2.2.2 20 p = nI i ∧ S.2.2.2 22 p = -1 ∧ S.2.2.2 23 p = -1 ∧ S.2.2.2 24 p = -1 ∧ 0 < i ∧ i ≤ n
def FR (n q : Nat) (S : mm) : List fF → Option aV → Prop
  | [], _ => True
  | f :: F, x => FR1 P mk n q S F.length x f ∧ FR n q S F none
def mSc (S : mm) (F : List fF) (s : aS) : Prop := S.1 25 = nI F.length ∧ S.1 26 = nI (wk F) ∧ S.1 27 = nI (sT s) ∧ S.1 28 = nI (sA s) ∧ S.1 29 = sX s ∧ S.1 14 = nI (sN s) ∧ S.1 5 = nI mk ∧ S.2.1 = lN (sF s)
def mPr (S : mm) : Prop := ∀ e : Nat, e < mk → S.2.2.2 1 e = kd P e ∧ S.2.2.2 2 e = pa P e ∧ S.2.2.2 3 e = pb P e ∧ S.2.2.2 4 e = pc P e
def mMe (n q : Nat) (S : mm) (res : rP) : Prop := (∃ x : Nat, x ≤ 1000 ∧ S.1 9 = nI x) ∧ VR P mk n q S 0 (.inl []) ∧ VO P mk n q S (S.1 30) res.1 ∧ S.1 30 = res.2 ∧ S.1 0 = 0
def mEn (S : mm) (s : aS) : Prop := ∀ i : Nat, i ≤ sN s → match sC s i with
  | none => i = 0 ∧ S.2.2.2 11 i = -1
  | some fn => fn.2.1 < i ∧ S.2.2.2 11 i = nI fn.2.1 ∧ S.2.2.2 12 i = nI fn.1 ∧ fn.1 < mk ∧ kd P fn.1 = 19 ∧ S.2.2.2 13 i = nI (sG s i) ∧ sG s i ≤ 2
def mSl (q : Nat) (S : mm) (s : aS) : Prop := (∀ i j : Nat, i ≤ sN s → j < 10 → SL P mk (sN s) q S (10 * i + j) (sL s i j)) ∧ ∀ k : Nat, 10 * (sN s + 1) ≤ k → k < 910 → S.2.2.2 15 k = 0
def mPu (B : Nat) (F : List fF) (s : aS) : Prop := bF F ∧ wk F ≤ 40 ∧ sN s ≤ 90 ∧ sT s ≤ 400 ∧ (sF s + 400 ≤ B + sT s ∧ B < 2 ^ 61) ∧ sR s = none ∧ (∀ i : Nat, 1 ≤ i → i ≤ sN s → (sO s i = false ↔ fc i ∈ F)) ∧ sO s 0 = false ∧ lK s F
def MR (B : Nat) (res : rP) (q : Nat) (S : mm) (F : List fF) (x : Option aV) (s : aS) : Prop := mSc mk S F s ∧ mPr P mk S ∧ mMe P mk (sN s) q S res ∧ mEn P mk S s ∧ mSl P mk q S s ∧ FR P mk (sN s) q S F x ∧ mPu B F s
end MR
section MT
variable {P : aP} {mk B n n' q q' : Nat} {res : rP} {S S' : mm} {F : List fF} {x : Option aV} {s s' : aS} {y : Int32}
theorem VC_n {v : aV} {j : Nat} (hn : n ≤ n') (h : VC P mk n S j v) : VC P mk n' S j v := by
  cases v with
  | inl xs => exact h
  | inr fn => obtain ⟨h1, h2, h3, h4, h5, h6, h7, h8⟩ := h; exact ⟨h1, h2, h3, h4, h5, h6, Nat.le_trans h7 hn, h8⟩
theorem VR_n {v : aV} (hn : n ≤ n') (h : VR P mk n q S y v) : VR P mk n' q S y v := by
  obtain ⟨j, h1, h2, h3, h4, h5⟩ := h
  exact ⟨j, h1, h2, h3, h4, VC_n hn h5⟩
theorem VR_q {v : aV} (h : VR P mk n q S y v) : VR P mk n 1000 S y v := by
  obtain ⟨j, h1, h2, h3, h4, h5⟩ := h
  exact ⟨j, h1, h2, by omega, h4, h5⟩
/-- the same memory but at q -/
def mEq (q : Nat) (S S' : mm) : Prop := ∀ j : Nat, j < 1000 → j ≠ q → S'.2.2.2 7 j = S.2.2.2 7 j ∧ S'.2.2.2 8 j = S.2.2.2 8 j ∧ ∀ k : Nat, k < 8 → S'.2.2.1 (8 * j + k) = S.2.2.1 (8 * j + k)
theorem VC_mem {v : aV} {j : Nat} (h1 : S'.2.2.2 7 j = S.2.2.2 7 j) (h2 : ∀ k : Nat, k < 8 → S'.2.2.1 (8 * j + k) = S.2.2.1 (8 * j + k)) (h : VC P mk n S j v) : VC P mk n S' j v := by
  cases v with
  | inl xs =>
    obtain ⟨g1, g2, g3⟩ := h
    refine ⟨h1.trans g1, g2, fun k hk => ?_⟩
    rw [← g3 k hk]
    unfold atS
    rw [h2 (k / 2) (by have := g2.1; omega)]
  | inr fn =>
    obtain ⟨g1, g2, g3, g4, g5⟩ := h
    exact ⟨h1.trans g1, (h2 0 (by decide)).trans g2, (h2 1 (by decide)).trans g3, (h2 2 (by decide)).trans g4, g5⟩
theorem VR_mem {v : aV} (hm : mEq q S S') (h : VR P mk n q S y v) : VR P mk n q S' y v := by
  obtain ⟨j, h1, h2, h3, h4, h5⟩ := h
  obtain ⟨g1, g2, g3⟩ := hm j h2 h3
  exact ⟨j, h1, h2, h3, g2.trans h4, VC_mem g1 g3 h5⟩
theorem VO_of {v : Option aV} (hV : ∀ v : aV, VR P mk n q S y v → VR P mk n' q' S' y v) (h : VO P mk n q S y v) : VO P mk n' q' S' y v := by
  cases v with
  | none => exact h
  | some v => exact hV v h
/-- arrays but for the table stay -/
def kpA (S S' : mm) : Prop := ∀ k : Nat, k ≠ 7 → k ≠ 8 → k ≠ 32 → S'.2.2.2 k = S.2.2.2 k
def kpI (S S' : mm) : Prop := S'.2.1 = S.2.1 ∧ ∀ k : Nat, k ≠ 9 → S'.1 k = S.1 k
theorem SL_of {k : Nat} {l : aL} (hn : n ≤ n') (hA : kpA S S') (hV : (S.2.2.2 15 k = 1 ∨ S.2.2.2 15 k = 4) → ∀ v : aV, VR P mk n q S (S.2.2.2 16 k) v → VR P mk n' q' S' (S.2.2.2 16 k) v) (h : SL P mk n q S k l) : SL P mk n' q' S' k l := by
  have e15 := hA 15 (by decide) (by decide) (by decide)
  have e16 := hA 16 (by decide) (by decide) (by decide)
  have e17 := hA 17 (by decide) (by decide) (by decide)
  have e18 := hA 18 (by decide) (by decide) (by decide)
  match l, h with
  | none, h => show S'.2.2.2 15 k = 0; rw [e15]; exact h
  | some (.inl v), h => exact ⟨by rw [e15]; exact h.1, by rw [e16]; exact hV (Or.inl h.1) v h.2⟩
  | some (.inr (e, i, true, o)), h => exact ⟨by rw [e15]; exact h.1, h.2.1, by rw [e17]; exact h.2.2.1, by rw [e18]; exact h.2.2.2.1, h.2.2.2.2.1, Nat.le_trans h.2.2.2.2.2 hn⟩
  | some (.inr (e, i, false, none)), h => exact ⟨by rw [e15]; exact h.1, by rw [e17]; exact h.2.1, by rw [e18]; exact h.2.2.1, h.2.2.2.1, Nat.le_trans h.2.2.2.2 hn⟩
  | some (.inr (e, i, false, some v)), h => exact ⟨by rw [e15]; exact h.1, by rw [e16]; exact hV (Or.inr h.1) v h.2⟩
theorem FR1_of {p : Nat} {f : fF} (hn : n ≤ n') (hA : kpA S S') (hV : ∀ k : Nat, k = 22 ∨ k = 23 ∨ k = 24 → ∀ v : aV, VR P mk n q S (S.2.2.2 k p) v → VR P mk n' q' S' (S.2.2.2 k p) v) (h : FR1 P mk n q S p x f) : FR1 P mk n' q' S' p x f := by
  have e19 := hA 19 (by decide) (by decide) (by decide)
  have e20 := hA 20 (by decide) (by decide) (by decide)
  have e21 := hA 21 (by decide) (by decide) (by decide)
  have e22 := hA 22 (by decide) (by decide) (by decide)
  have e23 := hA 23 (by decide) (by decide) (by decide)
  have e24 := hA 24 (by decide) (by decide) (by decide)
  match f, h with
  | .inl (e, i, st, a, c), h =>
    obtain ⟨h1, h2, h3, h4, h5, h6, h7, h8, h9⟩ := h
    exact ⟨by rw [e19]; exact h1, by rw [e20]; exact h2, by rw [e21]; exact h3, by rw [e22]; exact VO_of (hV 22 (by simp)) h4, by rw [e23]; exact VO_of (hV 23 (by simp)) h5, by rw [e24]; exact VO_of (hV 24 (by simp)) h6, h7, Nat.le_trans h8 hn, h9⟩
  | .inr (.inl (i, j)), h =>
    obtain ⟨h1, h2, h3, h4, h5, h6, h7⟩ := h
    exact ⟨by rw [e19]; exact h1, by rw [e21]; exact h2, by rw [e22]; exact h3, by rw [e23]; exact h4, by rw [e24]; exact h5, Nat.le_trans h6 hn, h7⟩
  | .inr (.inr i), h =>
    obtain ⟨h1, h2, h3, h4, h5, h6, h7⟩ := h
    exact ⟨by rw [e19]; exact h1, by rw [e20]; exact h2, by rw [e22]; exact h3, by rw [e23]; exact h4, by rw [e24]; exact h5, h6, Nat.le_trans h7 hn⟩
theorem FR_of (hn : n ≤ n') (hA : kpA S S') : ∀ (F : List fF) (x : Option aV), (∀ p : Nat, p < F.length → ∀ k : Nat, k = 22 ∨ k = 23 ∨ k = 24 → ∀ v : aV, VR P mk n q S (S.2.2.2 k p) v → VR P mk n' q' S' (S.2.2.2 k p) v) → FR P mk n q S F x → FR P mk n' q' S' F x
  | [], _, _, _ => trivial
  | f :: F, x, hV, h => ⟨FR1_of hn hA (hV F.length (by simp)) h.1, FR_of hn hA F none (fun p hp => hV p (by simp; omega)) h.2⟩
/-- the table's memory changes, the roots' values stay -/
theorem MR_mem (h : MR P mk B res q S F x s) (hA : kpA S S') (hI : kpI S S') (h9 : ∃ x : Nat, x ≤ 1000 ∧ S'.1 9 = nI x)
    (hs : ∀ k : Nat, k < 910 → (S.2.2.2 15 k = 1 ∨ S.2.2.2 15 k = 4) → ∀ v : aV, VR P mk (sN s) q S (S.2.2.2 16 k) v → VR P mk (sN s) q' S' (S.2.2.2 16 k) v)
    (hf : ∀ p : Nat, p < F.length → ∀ k : Nat, k = 22 ∨ k = 23 ∨ k = 24 → ∀ v : aV, VR P mk (sN s) q S (S.2.2.2 k p) v → VR P mk (sN s) q' S' (S.2.2.2 k p) v)
    (hr : ∀ v : aV, VR P mk (sN s) q S (S.1 30) v → VR P mk (sN s) q' S' (S.1 30) v) (h0 : ∀ v : aV, VR P mk (sN s) q S 0 v → VR P mk (sN s) q' S' 0 v) : MR P mk B res q' S' F x s := by
  obtain ⟨m1, m2, m3, m4, m5, m6, m7⟩ := h
  refine ⟨?_, ?_, ⟨h9, h0 _ m3.2.1, ?_⟩, ?_, ⟨fun i j hi hj => ?_, fun k hk hk2 => ?_⟩, FR_of (Nat.le_refl _) hA F x hf m6, m7⟩
  · obtain ⟨a1, a2, a3, a4, a5, a6, a7, a8⟩ := m1
    exact ⟨(hI.2 25 (by decide)).trans a1, (hI.2 26 (by decide)).trans a2, (hI.2 27 (by decide)).trans a3, (hI.2 28 (by decide)).trans a4, (hI.2 29 (by decide)).trans a5, (hI.2 14 (by decide)).trans a6, (hI.2 5 (by decide)).trans a7, hI.1.trans a8⟩
  · intro e he
    rw [hA 1 (by decide) (by decide) (by decide), hA 2 (by decide) (by decide) (by decide), hA 3 (by decide) (by decide) (by decide), hA 4 (by decide) (by decide) (by decide)]
    exact m2 e he
  · rw [hI.2 30 (by decide), hI.2 0 (by decide)]
    exact ⟨VO_of hr m3.2.2.1, m3.2.2.2⟩
  · intro i hi
    have := m4 i hi
    rw [hA 11 (by decide) (by decide) (by decide), hA 12 (by decide) (by decide) (by decide), hA 13 (by decide) (by decide) (by decide)]
    exact this
  · exact SL_of (Nat.le_refl _) hA (hs _ (by have := m7.2.2.1; omega)) (m5.1 i j hi hj)
  · rw [hA 15 (by decide) (by decide) (by decide)]
    exact m5.2 k hk hk2
theorem MR_all (h : MR P mk B res q S F x s) (hA : kpA S S') (hI : kpI S S') (h9 : ∃ x : Nat, x ≤ 1000 ∧ S'.1 9 = nI x) (hV : ∀ (y : Int32) (v : aV), VR P mk (sN s) q S y v → VR P mk (sN s) q' S' y v) : MR P mk B res q' S' F x s :=
  MR_mem h hA hI h9 (fun _ _ _ => hV _) (fun _ _ _ _ => hV _) (hV _) (hV _)
theorem kpA_refl : kpA S S := fun _ _ _ _ => rfl
theorem kpI_refl : kpI S S := ⟨rfl, fun _ _ => rfl⟩
theorem kpA_tr {S2 : mm} (h1 : kpA S S') (h2 : kpA S' S2) : kpA S S2 := fun k a c d => (h2 k a c d).trans (h1 k a c d)
theorem kpI_tr {S2 : mm} (h1 : kpI S S') (h2 : kpI S' S2) : kpI S S2 := ⟨h2.1.trans h1.1, fun k a => (h2.2 k a).trans (h1.2 k a)⟩
theorem MR_q (h : MR P mk B res q S F x s) : MR P mk B res 1000 S F x s := MR_all h kpA_refl kpI_refl h.2.2.1.1 (fun _ _ => VR_q)
end MT
