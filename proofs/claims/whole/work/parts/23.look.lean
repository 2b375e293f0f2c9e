/-! the evaluator's methods against the pure functions: the frame of it; looking up; arguments; read; assign -/
def pK (s : aS) : Nat := 2 * (400 - sT s) + 2 * (90 - sN s)
def pN (s : aS) : Nat := 17 * (400 - sT s) + 23 * (90 - sN s)
section EVD
variable (dA : Nat → ClassId) (c : Nat → Nat) (P : aP) (mk : Nat)
/-- the end Q allows what r says, from (w, G, s) on, with ck cells and cn slots beyond those that steps and environments bring -/
def zend (w : ww_W) (G : gG) (s : aS) (r : aR) (ck cn : Nat) (Q : zQ) : Prop := ∀ (v : Value) (w' : ww_W) (G' : gG) (k' n' : Nat), CI dA c P mk w' G' r.2 → rvO dA c P mk w' G' r.2 v r.1 → LEx c w G s w' G' r.2 → k' + pK r.2 ≤ pK s + ck → n' + pN r.2 ≤ pN s + cn → Q (.inl (some v)) w' k' n'
def dD (d : Nat) : Nat := 4 * d + 8
def evOK (d : Nat) : Prop := ∀ (w : ww_W) (G : gG) (s : aS) (e i K N : Nat) (x op : Int32) (Q : zQ), CI dA c P mk w G s → e < mk → i ≤ sN s → pK s ≤ K → pN s ≤ N → x = nI e → op = nI (40 - d) → zend dA c P mk w G s (e_ev P d s e i) 0 0 Q →
  zx dA (dD d) K N M_Evaluator_evaluate 0 (zargs 5 [.ref (c 0), .int x, .ref (ge G i), .int op]) [] w 0 0 Q
def XP (w : ww_W) (x e : Nat) : Prop := ∃ num : Value, w x = some (.inr (C_Expr, [.int (kd P e), .int (pa P e), .int (pb P e), .int (pc P e), num]))
end EVD
section EVE
variable {dA : Nat → ClassId} {c : Nat → Nat} {P : aP} {mk : Nat} {w w' : ww_W} {G G' : gG} {s s' : aS} {D K N d : Nat} {Q : zQ}
theorem XP_le {x e : Nat} (h : LEx c w G s w' G' s') (hx : XP P w x e) : XP P w' x e := by
  obtain ⟨num, q⟩ := hx
  exact ⟨num, h.1.1 _ _ q (by intro q; rcases q with q | q | q | q <;> cases q)⟩
theorem rvO_rf {v : Value} {x : Option aV} (h : rvO dA c P mk w G s v x) : ∃ r : Option Nat, zrf v = some r := by
  cases x with
  | none => rw [show v = .null from h]; exact ⟨none, rfl⟩
  | some x =>
    cases x with
    | inl xs =>
      obtain ⟨a, q, f, h1, _⟩ := h
      rw [h1]; exact ⟨some a, rfl⟩
    | inr fn =>
      rw [h.1]; exact ⟨some _, rfl⟩
theorem rv_ref {v : Value} {x : aV} (h : rv dA c P mk w G s v x) : ∃ a : Nat, v = .ref a := by
  cases x with
  | inl xs =>
    obtain ⟨a, q, f, h1, _⟩ := h
    exact ⟨a, h1⟩
  | inr fn => exact ⟨_, h.1⟩
theorem zend_ret {μ pc k n ck cn ck1 cn1 : Nat} {L : zV} {w1 : ww_W} {G1 : gG} {s1 : aS} {r : aR} (hT : zT dA μ pc = some zretA) (hl : LEx c w G s w1 G1 s1) (hk : k + pK s1 + ck1 ≤ pK s + ck) (hn : n + pN s1 + cn1 ≤ pN s + cn) (hK : pK s + ck ≤ K) (hN : pN s + cn ≤ N) (hQ : zend dA c P mk w G s r ck cn Q) : zend dA c P mk w1 G1 s1 r ck1 cn1 (zcont dA D K N μ pc L [] k n Q) := by
  intro v w' G' k' n' hc hv hle h1 h2
  obtain ⟨rf, hrf⟩ := rvO_rf hv
  exact ⟨some v, rfl, z_retA hT hrf (by omega) (by omega) (hQ v w' G' (k + k') (n + n') hc hv (LE_trans hl hle) (by omega) (by omega))⟩
theorem CI_obj (h : CI dA c P mk w G s) : ∃ a b : Value, w (c 0) = some (.inr (C_Evaluator, evF c G s a b)) := by
  obtain ⟨a, b, q1, q2⟩ := h.1
  exact ⟨a, b, q1⟩
theorem r_failC {x : Int32} (h : CI dA c P mk w G s) (hQ : zend dA c P mk w G s (e_fail s x) 0 0 Q) (hx : okI x := by decide) : zx dA D K N M_Evaluator_fail 0 (zargs 2 [.ref (c 0), .int x]) [] w 0 0 Q := by
  obtain ⟨a, b, q1, q2⟩ := id h.1
  obtain ⟨h1, h2⟩ := CI_ev (s' := uX s x) h rfl rfl rfl ⟨h.2.2.2.2.2.2.2.1.1, hx⟩ (a := a) (b := b) q2
  exact r_fail q1 rfl (hQ .null _ G 0 0 h1 rfl h2 (by show 0 + pK s ≤ _; omega) (by show 0 + pN s ≤ _; omega))
theorem rs_some {i j a : Nat} {x : aL} (h : rs dA c P mk w G s i j (some a) x) : x.isSome = true := by
  cases x with
  | none => cases h
  | some x => rfl
theorem rs_none {i j : Nat} {x : aL} (h : rs dA c P mk w G s i j none x) : x = none := by
  cases x with
  | none => rfl
  | some x =>
    cases x with
    | inl x => obtain ⟨a, h1, _⟩ := h; cases h1
    | inr x => obtain ⟨a, kv, h1, _⟩ := h; cases h1
theorem r_lookUp_loop {j : Nat} {o0 : Option Value} (h : CI dA c P mk w G s) (hj : j < 10) : ∀ (r i : Nat), i ≤ sN s → i < r → (e_pl s j r i = none → Q (.inl (some .null)) w 0 0) → (∀ i' a : Nat, e_pl s j r i = some i' → i' ≤ sN s → rs dA c P mk w G s i' j (some a) (sL s i' j) → Q (.inl (some (.ref a))) w 0 0) →
    zx dA D K N M_Environment_lookUp 2 [o0, some (.int (nI j)), some (.ref (ge G i))] [] w 0 0 Q := by
  intro r
  induction r with
  | zero => intro i _ hr; omega
  | succ r ih =>
    intro i hi hr h0 h1
    obtain ⟨ou, ca, hh, q1, q2, q3, q4⟩ := h.2.2.2.2.1 i hi
    repeat refine z_i rfl rfl ?_
    refine z_bf rfl rfl (fun q => q) ?_
    repeat refine z_i rfl rfl ?_
    refine z_get rfl q1 rfl ?_
    repeat refine z_i rfl rfl ?_
    refine z_aald (j := j) 4 rfl rfl q2 rfl (by omega) (by omega) rfl ?_
    have q5 := q4 j hj
    cases hc : hh j with
    | none =>
      rw [hc] at q5
      have q6 := rs_none q5
      refine z_bt rfl rfl trivial ?_
      repeat refine z_i rfl rfl ?_
      refine z_get rfl q1 rfl ?_
      rw [e_pl, q6] at h0 h1
      cases hC : sC s i with
      | none =>
        rw [hC] at q3 h0
        rw [q3.1]
        refine z_i rfl rfl ?_
        refine z_j rfl ?_
        repeat refine z_i rfl rfl ?_
        refine z_bt rfl rfl trivial ?_
        repeat refine z_i rfl rfl ?_
        exact z_retA rfl rfl (Nat.zero_le _) (Nat.zero_le _) (h0 rfl)
      | some fn =>
        rw [hC] at q3 h0 h1
        rw [q3.2.1]
        refine z_i rfl rfl ?_
        refine z_j rfl ?_
        exact ih fn.2.1 (by omega) (by omega) h0 h1
    | some a =>
      rw [hc] at q5
      refine z_bf rfl rfl (fun q => q) ?_
      repeat refine z_i rfl rfl ?_
      refine z_get rfl q1 rfl ?_
      repeat refine z_i rfl rfl ?_
      refine z_aald (j := j) 4 rfl rfl q2 rfl (by omega) (by omega) rfl ?_
      rw [hc]
      refine z_retA rfl rfl (Nat.zero_le _) (Nat.zero_le _) (h1 i a ?_ hi q5)
      rw [e_pl, if_pos (rs_some q5)]
theorem r_lookUp {i j : Nat} {x : Int32} (hx : x = nI j) (h : CI dA c P mk w G s) (hj : j < 10) (hi : i ≤ sN s) (h0 : e_pl s j 91 i = none → Q (.inl (some .null)) w 0 0) (h1 : ∀ i' a : Nat, e_pl s j 91 i = some i' → i' ≤ sN s → rs dA c P mk w G s i' j (some a) (sL s i' j) → Q (.inl (some (.ref a))) w 0 0) :
    zx dA D K N M_Environment_lookUp 0 (zargs 3 [.ref (ge G i), .int x]) [] w 0 0 Q := by
  subst hx
  have := h.2.2.2.2.2.2.1
  refine z_i rfl rfl ?_
  refine z_i rfl rfl ?_
  exact r_lookUp_loop h hj 91 i hi (by omega) h0 h1
theorem r_near_loop {j : Nat} {o0 : Option Value} (h : CI dA c P mk w G s) (hj : j < 10) : ∀ (r i : Nat), i ≤ sN s → i < r → (e_na s j r i ≤ sN s → Q (.inl (some (.ref (ge G (e_na s j r i))))) w 0 0) →
    zx dA D K N M_Environment_nearestAround 16 [o0, some (.int (nI j)), some (.ref (ge G i))] [] w 0 0 Q := by
  intro r
  induction r with
  | zero => intro i _ hr; omega
  | succ r ih =>
    intro i hi hr h0
    obtain ⟨ou, ca, hh, q1, q2, q3, q4⟩ := h.2.2.2.2.1 i hi
    repeat refine z_i rfl rfl ?_
    refine z_get rfl q1 rfl ?_
    rw [e_na] at h0
    cases hC : sC s i with
    | none =>
      rw [hC] at q3 h0
      rw [q3.1]
      refine z_bt rfl rfl trivial ?_
      repeat refine z_i rfl rfl ?_
      exact z_retA rfl rfl (Nat.zero_le _) (Nat.zero_le _) (h0 hi)
    | some fn =>
      rw [hC] at q3 h0
      rw [q3.2.1]
      refine z_bf rfl rfl (fun q => q) ?_
      repeat refine z_i rfl rfl ?_
      refine z_get rfl q1 rfl ?_
      repeat refine z_i rfl rfl ?_
      refine z_aald (j := j) 4 rfl rfl q2 rfl (by omega) (by omega) rfl ?_
      have q5 := q4 j hj
      cases hc : hh j with
      | none =>
        rw [hc] at q5
        have q6 := rs_none q5
        rw [q6] at h0
        refine z_bf rfl rfl (fun q => q) ?_
        repeat refine z_i rfl rfl ?_
        refine z_get rfl q1 rfl ?_
        rw [q3.2.1]
        refine z_i rfl rfl ?_
        refine z_j rfl ?_
        exact ih fn.2.1 (by omega) (by omega) h0
      | some a =>
        rw [hc] at q5
        have q6 := rs_some q5
        replace h0 : (if (sL s i j).isSome = true then i else e_na s j r fn.2.1) ≤ sN s → Q (.inl (some (.ref (ge G (if (sL s i j).isSome = true then i else e_na s j r fn.2.1))))) w 0 0 := h0
        rw [if_pos q6] at h0
        refine z_bt rfl rfl trivial ?_
        repeat refine z_i rfl rfl ?_
        exact z_retA rfl rfl (Nat.zero_le _) (Nat.zero_le _) (h0 hi)
theorem r_near {i j : Nat} {x : Int32} (hx : x = nI j) (h : CI dA c P mk w G s) (hj : j < 10) (hi : i ≤ sN s) (h0 : e_ar s j i ≤ sN s → Q (.inl (some (.ref (ge G (e_ar s j i))))) w 0 0) : zx dA D K N M_Environment_nearestAround 0 (zargs 3 [.ref (ge G i), .int x]) [] w 0 0 Q := by
  subst hx
  have h90 := h.2.2.2.2.2.2.1
  obtain ⟨ou, ca, hh, q1, q2, q3, q4⟩ := h.2.2.2.2.1 i hi
  rw [e_ar] at h0
  repeat refine z_i rfl rfl ?_
  refine z_get rfl q1 rfl ?_
  cases hC : sC s i with
  | none =>
    rw [hC] at q3 h0
    rw [q3.1]
    refine z_bf rfl rfl (fun q => q) ?_
    refine z_i rfl rfl ?_
    refine z_j rfl ?_
    refine z_i rfl rfl ?_
    refine r_near_loop h hj 91 i hi (by omega) ?_
    rw [e_na, hC]
    exact h0
  | some fn =>
    rw [hC] at q3 h0
    rw [q3.2.1]
    refine z_bt rfl rfl trivial ?_
    repeat refine z_i rfl rfl ?_
    refine z_get rfl q1 rfl ?_
    rw [q3.2.1]
    refine z_i rfl rfl ?_
    exact r_near_loop h hj 91 fn.2.1 (by omega) (by omega) h0
theorem e_un_2 (s : aS) (i j : Nat) (v : Option aV) : (e_un s i j v).2 = s.2 := by
  unfold e_un
  split
  · rfl
  · rfl
theorem uL_id (s : aS) (i j : Nat) : uL s i j (sL s i j) = s := by
  have : va_up s.1 i (va_up (s.1 i).1 j ((s.1 i).1 j), (s.1 i).2) = s.1 := by
    funext x
    by_cases h : x = i
    · subst h
      rw [va_up_self]
      have e : va_up (s.1 x).1 j ((s.1 x).1 j) = (s.1 x).1 := by
        funext y
        by_cases h1 : y = j
        · subst h1; exact va_up_self _ _ _
        · exact va_up_ne _ _ h1
      rw [e]
    · exact va_up_ne _ _ h
  unfold uL sL
  rw [this]
theorem pK_of {s s' : aS} (h : s'.2 = s.2) : pK s' = pK s := by unfold pK sT sN; rw [h]
theorem pN_of {s s' : aS} (h : s'.2 = s.2) : pN s' = pN s := by unfold pN sT sN; rw [h]
/-- the end of an argument's evaluation, in the world: f2 what is known of it -/
theorem r_unb {i j a : Nat} {f0 f1 f2 f2' f3 : Value} {v : Option aV} (h : CI dA c P mk w G s) (hi : i ≤ sN s) (hj : j < 10) (hga : ga G i j = some a) (hw : w a = some (.inr (C_Arg, [f0, f1, f2, f3]))) (hv : match v with
    | none => f2' = f2
    | some x => rv dA c P mk w G s f2' x) : CI dA c P mk (va_up w a (some (.inr (C_Arg, [f0, f1, f2', .int 0])))) G (e_un s i j v) ∧ LEx c w G s (va_up w a (some (.inr (C_Arg, [f0, f1, f2', .int 0])))) G (e_un s i j v) := by
  obtain ⟨ou, ca, hh, q1, q2, q3, q4⟩ := h.2.2.2.2.1 i hi
  have q5 := q4 j hj
  have hid : (∀ x : aA, sL s i j ≠ some (.inr x)) → CI dA c P mk (va_up w a (some (.inr (C_Arg, [f0, f1, f2', .int 0])))) G s ∧ LEx c w G s (va_up w a (some (.inr (C_Arg, [f0, f1, f2', .int 0])))) G s := by
    intro hn
    have := CI_argu (y := sL s i j) (fs' := [f0, f1, f2', .int 0]) h hi hga hw rfl (Or.inl ⟨rfl, hn⟩)
    rw [uL_id] at this
    exact this
  unfold e_un
  cases hsl : sL s i j with
  | none => exact hid (fun x q => by rw [hsl] at q; cases q)
  | some y =>
    cases y with
    | inl y => exact hid (fun x q => by rw [hsl] at q; cases q)
    | inr y =>
      rw [hsl] at q5
      obtain ⟨a2, kv2, t1, t2, t3, t4, t5, t6⟩ := q5
      rw [hga] at t2
      cases t2
      rw [hw] at t3
      cases t3
      refine CI_argu h hi hga hw rfl (Or.inr ⟨⟨y, hsl⟩, _, f2', rfl, rfl, ?_, t5, t6⟩)
      cases v with
      | none => rw [show f2' = f2 from hv]; exact t4
      | some x => exact hv
theorem r_evArg {i j a : Nat} {x : aA} {kv : Value} {op : Int32} (IH : evOK dA c P mk d) (h : CI dA c P mk w G s) (hD : dD d + 1 ≤ D) (hK : pK s ≤ K) (hN : pN s ≤ N) (hop : op = nI (40 - d)) (hi : i ≤ sN s) (hj : j < 10) (hs : sL s i j = some (.inr x)) (hga : ga G i j = some a) (hw : w a = some (.inr (C_Arg, [.int (nI x.1), .ref (ge G x.2.1), kv, .int (if x.2.2.1 then 1 else 0)]))) (hkv : kv = .null) (hx1 : x.2.1 ≤ sN s) (hx2 : x.1 < mk) (hQ : zend dA c P mk w G s (e_arg (e_ev P d) s i j x) 0 0 Q) :
    zx dA D K N M_Evaluator_evaluateArgument 0 (zargs 4 [.ref (c 0), .ref a, .int op]) [] w 0 0 Q := by
  subst hkv
  unfold dD at hD
  obtain ⟨ea, eb, hev⟩ := CI_obj h
  repeat refine z_i rfl rfl ?_
  refine z_get rfl hw rfl ?_
  unfold e_arg at hQ
  cases hb : x.2.2.1 with
  | true =>
    rw [hb] at hQ
    refine z_bf rfl rfl (by intro q; cases q) ?_
    repeat refine z_i rfl rfl ?_
    refine z_cVk [.int 2] [] 0 0 0 rfl hev rfl rfl (Nat.le_of_ble_eq_true rfl) (Nat.le_of_ble_eq_true rfl) (by omega) (by omega) (by omega) (r_failC h (zend_ret rfl LE_refl (by omega) (by omega) (by omega) (by omega) hQ))
  | false =>
    rw [hb] at hQ
    refine z_bt rfl rfl rfl ?_
    repeat refine z_i rfl rfl ?_
    refine z_put rfl hw (Nat.le_of_ble_eq_true rfl) ⟨rfl, rfl⟩ ?_
    obtain ⟨h1, hl1⟩ := CI_argu (y := some (.inr (x.1, x.2.1, true, none))) (fs' := [.int (nI x.1), .ref (ge G x.2.1), .null, .int 1]) h hi hga hw rfl (Or.inr ⟨⟨x, hs⟩, (x.1, x.2.1, true, none), .null, rfl, rfl, rfl, hx1, hx2⟩)
    obtain ⟨ea1, eb1, hev1⟩ := CI_obj h1
    repeat refine z_i rfl rfl ?_
    refine z_get rfl (va_up_self _ _ _) rfl ?_
    repeat refine z_i rfl rfl ?_
    refine z_get rfl (va_up_self _ _ _) rfl ?_
    repeat refine z_i rfl rfl ?_
    refine z_cVk [.int (nI x.1), .ref (ge G x.2.1), .int op] [] (dD d) K N rfl hev1 rfl rfl (Nat.le_of_ble_eq_true rfl) (Nat.le_of_ble_eq_true rfl) (by unfold dD; omega) (by omega) (by omega) (IH _ G _ x.1 x.2.1 K N _ _ _ h1 hx2 hx1 (by show pK s ≤ K; omega) (by show pN s ≤ N; omega) rfl hop ?_)
    replace hQ : zend dA c P mk w G s ((e_ev P d (uL s i j (some (.inr (x.1, x.2.1, true, none)))) x.1 x.2.1).1, e_ct (e_un (e_ev P d (uL s i j (some (.inr (x.1, x.2.1, true, none)))) x.1 x.2.1).2 i j (e_ev P d (uL s i j (some (.inr (x.1, x.2.1, true, none)))) x.1 x.2.1).1) (e_ev P d (uL s i j (some (.inr (x.1, x.2.1, true, none)))) x.1 x.2.1).1) 0 0 Q := hQ
    generalize e_ev P d (uL s i j (some (.inr (x.1, x.2.1, true, none)))) x.1 x.2.1 = r at hQ ⊢
    obtain ⟨r1, s1⟩ := r
    intro v w1 G1 k1 n1 hc1 hv1 hle1 hk1 hn1
    refine ⟨_, rfl, ?_⟩
    replace hk1 : k1 + pK s1 ≤ pK s := hk1
    replace hn1 : n1 + pN s1 ≤ pN s := hn1
    have hga1 : ga G1 i j = some a := hle1.2.2.2.1 i j a hga
    have hi1 : i ≤ sN s1 := Nat.le_trans hi hle1.2.2.2.2.1
    obtain ⟨fs1, hw1, hl4⟩ := hc1.2.2.2.2.2.2.2.2.1 i j a hga1
    obtain ⟨f0, f1, f2, f3, rfl⟩ : ∃ f0 f1 f2 f3 : Value, fs1 = [f0, f1, f2, f3] := by
      match fs1, hl4 with
      | [f0, f1, f2, f3], _ => exact ⟨f0, f1, f2, f3, rfl⟩
    cases r1 with
    | none =>
      replace hv1 : v = .null := hv1
      subst hv1
      repeat refine z_i rfl rfl ?_
      refine z_put rfl hw1 (Nat.le_of_ble_eq_true rfl) ⟨rfl, rfl⟩ ?_
      repeat refine z_i rfl rfl ?_
      refine z_bt rfl rfl trivial ?_
      repeat refine z_i rfl rfl ?_
      have hgo := r_unb (v := none) (f2' := f2) hc1 hi1 hj hga1 hw1 rfl
      refine z_retA rfl rfl (by omega) (by omega) (hQ .null _ G1 _ _ hgo.1 rfl (LE_trans hl1 (LE_trans hle1 hgo.2)) ?_ ?_)
      · show _ + pK (e_un s1 i j none) ≤ _
        rw [pK_of (e_un_2 s1 i j none)]
        omega
      · show _ + pN (e_un s1 i j none) ≤ _
        rw [pN_of (e_un_2 s1 i j none)]
        omega
    | some y =>
      obtain ⟨b, rfl⟩ := rv_ref hv1
      repeat refine z_i rfl rfl ?_
      refine z_put rfl hw1 (Nat.le_of_ble_eq_true rfl) ⟨rfl, rfl⟩ ?_
      repeat refine z_i rfl rfl ?_
      refine z_bf rfl rfl (fun q => q) ?_
      repeat refine z_i rfl rfl ?_
      refine z_put rfl (va_up_self _ _ _) (Nat.le_of_ble_eq_true rfl) ⟨rfl, rfl⟩ ?_
      rw [bx_uu]
      have hgo := r_unb (v := some y) (f2' := .ref b) hc1 hi1 hj hga1 hw1 hv1
      obtain ⟨ea2, eb2, t1, t2⟩ := id hgo.1.1
      obtain ⟨h3, hl3⟩ := CI_ev (s' := uA (e_un s1 i j (some y)) (sA (e_un s1 i j (some y)) + 1)) hgo.1 rfl rfl rfl hgo.1.2.2.2.2.2.2.2.1 (a := ea2) (b := eb2) t2
      have hle := LE_trans hl1 (LE_trans hle1 (LE_trans hgo.2 hl3))
      repeat refine z_i rfl rfl ?_
      refine z_get rfl t1 rfl ?_
      repeat refine z_i rfl rfl ?_
      refine z_put rfl t1 (Nat.le_of_ble_eq_true rfl) ⟨rfl, rfl⟩ ?_
      repeat refine z_i rfl rfl ?_
      dsimp only
      rw [nI_1]
      refine z_retA rfl rfl (by omega) (by omega) (hQ (.ref b) _ G1 _ _ h3 (rv_le (LE_trans hgo.2 hl3) hv1) hle ?_ ?_)
      · show _ + pK (uA (e_un s1 i j (some y)) (sA (e_un s1 i j (some y)) + 1)) ≤ _
        have := pK_of (e_un_2 s1 i j (some y))
        show _ + pK (e_un s1 i j (some y)) ≤ _
        omega
      · have := pN_of (e_un_2 s1 i j (some y))
        show _ + pN (e_un s1 i j (some y)) ≤ _
        omega
theorem r_valueOf {i j a : Nat} {op : Int32} (IH : evOK dA c P mk d) (h : CI dA c P mk w G s) (hD : dD d + 2 ≤ D) (hK : pK s ≤ K) (hN : pN s ≤ N) (hop : op = nI (40 - d)) (hi : i ≤ sN s) (hj : j < 10) (hs : rs dA c P mk w G s i j (some a) (sL s i j)) (hQ : zend dA c P mk w G s (e_val (e_ev P d) s i j) 0 0 Q) :
    zx dA D K N M_Evaluator_valueOf 0 (zargs 4 [.ref (c 0), .ref a, .int op]) [] w 0 0 Q := by
  obtain ⟨ea, eb, hev⟩ := CI_obj h
  unfold e_val at hQ
  cases hsl : sL s i j with
  | none => rw [hsl] at hs; cases hs
  | some y =>
    rw [hsl] at hs hQ
    cases y with
    | inl y =>
      obtain ⟨a', t1, t2⟩ := hs
      cases t1
      have hobj : ∃ (ci : Nat) (fs : List Value), w a = some (.inr (ci, fs)) ∧ (ci = 5 ∨ ci = 7) := by
        cases y with
        | inl xs =>
          obtain ⟨a1, q, f, p1, p2, _⟩ := t2
          cases p1
          exact ⟨_, _, p2, Or.inl rfl⟩
        | inr fn =>
          obtain ⟨p1, p2, _⟩ := t2
          cases p1
          exact ⟨_, _, p2, Or.inr rfl⟩
      obtain ⟨ci, fs, p1, p2⟩ := hobj
      repeat refine z_i rfl rfl ?_
      refine z_instF rfl (by rcases p2 with rfl | rfl <;> simp) p1 ?_
      refine z_bt rfl rfl rfl ?_
      repeat refine z_i rfl rfl ?_
      refine z_instY rfl (by rcases p2 with rfl | rfl <;> simp) p1 ?_
      refine z_bf rfl rfl (by intro q; cases q) ?_
      repeat refine z_i rfl rfl ?_
      refine z_cast rfl (by rcases p2 with rfl | rfl <;> simp) p1 ?_
      repeat refine z_i rfl rfl ?_
      refine z_j rfl ?_
      exact z_retA rfl rfl (by omega) (by omega) (hQ (.ref a) w G 0 0 h t2 LE_refl (by show 0 + pK s ≤ _; omega) (by show 0 + pN s ≤ _; omega))
    | inr y =>
      obtain ⟨a', kv, t1, t2, t3, t4, t5, t6⟩ := hs
      cases t1
      repeat refine z_i rfl rfl ?_
      refine z_instY rfl (by simp) t3 ?_
      refine z_bf rfl rfl (by intro q; cases q) ?_
      repeat refine z_i rfl rfl ?_
      refine z_cast rfl (by simp) t3 ?_
      repeat refine z_i rfl rfl ?_
      refine z_get rfl t3 rfl ?_
      replace hQ : zend dA c P mk w G s (match y.2.2.2 with
        | some v => (some v, s)
        | none => e_arg (e_ev P d) s i j y) 0 0 Q := hQ
      cases hkn : y.2.2.2 with
      | none =>
        rw [hkn] at hQ t4
        replace t4 : kv = .null := t4
        subst t4
        replace hQ : zend dA c P mk w G s (e_arg (e_ev P d) s i j y) 0 0 Q := hQ
        refine z_bf rfl rfl (fun q => q) ?_
        repeat refine z_i rfl rfl ?_
        refine z_cVk [.ref a, .int op] [] (dD d + 1) K N rfl hev rfl rfl (Nat.le_of_ble_eq_true rfl) (Nat.le_of_ble_eq_true rfl) (by omega) (by omega) (by omega) (r_evArg IH h (Nat.le_refl _) hK hN hop hi hj hsl t2 t3 rfl t5 t6 ?_)
        intro v w' G' k' n' hc hv hle h1 h2
        obtain ⟨rf, hrf⟩ := rvO_rf hv
        refine ⟨some v, rfl, ?_⟩
        refine z_j rfl ?_
        exact z_retA rfl hrf (by omega) (by omega) (hQ v w' G' (0 + k') (0 + n') hc hv hle (by omega) (by omega))
      | some v =>
        rw [hkn] at hQ t4
        obtain ⟨b, rfl⟩ := rv_ref t4
        refine z_bt rfl rfl trivial ?_
        repeat refine z_i rfl rfl ?_
        refine z_get rfl t3 rfl ?_
        exact z_retA rfl rfl (by omega) (by omega) (hQ (.ref b) w G 0 0 h t4 LE_refl (by show 0 + pK s ≤ _; omega) (by show 0 + pN s ≤ _; omega))
end EVE
