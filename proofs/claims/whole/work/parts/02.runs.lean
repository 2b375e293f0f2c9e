/-! RUNS: what a method does, said once over worlds, without the machine. zR T: the least predicate closed under the table's steps (T: method number, pc: the step). zR's meaning on the machine is zM; each step is shown sound once (zS). -/
abbrev zV : Type := List (Option Value)
abbrev zQ : Type := (Option Value ⊕ Nat) → ww_W → Nat → Nat → Prop
/-- d levels of calls, K cells and N slots left; the method, pc, locals, stack; the world; k cells and n slots taken so far; what must hold at the end -/
abbrev zP : Type := Nat → Nat → Nat → Nat → Nat → zV → List Value → ww_W → Nat → Nat → zQ → Prop
def zR (T : Nat → Nat → Option (zP → zP)) : zP := fun d K N μ pc L st w k n Q =>
  ∀ P : zP, (∀ (d K N μ pc : Nat) (L : zV) (st : List Value) (w : ww_W) (k n : Nat) (Q : zQ) (tr : zP → zP), T μ pc = some tr → tr P d K N μ pc L st w k n Q → P d K N μ pc L st w k n Q) → P d K N μ pc L st w k n Q
def zMono (tr : zP → zP) : Prop := ∀ P P' : zP, (∀ (d K N μ pc : Nat) (L : zV) (st : List Value) (w : ww_W) (k n : Nat) (Q : zQ), P d K N μ pc L st w k n Q → P' d K N μ pc L st w k n Q) →
  ∀ (d K N μ pc : Nat) (L : zV) (st : List Value) (w : ww_W) (k n : Nat) (Q : zQ), tr P d K N μ pc L st w k n Q → tr P' d K N μ pc L st w k n Q
theorem zR.go {T : Nat → Nat → Option (zP → zP)} (hm : ∀ (μ pc : Nat) (tr : zP → zP), T μ pc = some tr → zMono tr) {d K N μ pc : Nat} {L : zV} {st : List Value} {w : ww_W} {k n : Nat} {Q : zQ} {tr : zP → zP} (h : T μ pc = some tr) (h2 : tr (zR T) d K N μ pc L st w k n Q) : zR T d K N μ pc L st w k n Q :=
  fun P hP => hP d K N μ pc L st w k n Q tr h (hm μ pc tr h (zR T) P (fun _ _ _ _ _ _ _ _ _ _ _ hx => hx P hP) d K N μ pc L st w k n Q h2)
/-! locals by place; a store of one word, of two -/
def zcl (o : Option Value) : Option Value := match o with
  | some u => if u.category = 2 then none else some u
  | none => none
def zs1 : zV → Nat → Value → zV
  | [], _, _ => []
  | _ :: L, 0, v => some v :: L
  | o :: L, i + 1, v => (if i = 0 then zcl o else o) :: zs1 L i v
def zs2 : zV → Nat → Value → zV
  | [], _, _ => []
  | _ :: L, 0, v => some v :: (match L with
    | [] => []
    | _ :: L' => none :: L')
  | o :: L, i + 1, v => (if i = 0 then zcl o else o) :: zs2 L i v
def zH (ls : Array Slot) (nL : Nat) (L : zV) : Prop := L.length = nL ∧ ∃ lv : List (Nat × Value), lv_has ls nL lv ∧ ∀ (i : Nat) (v : Value), L[i]? = some (some v) → (i, v) ∈ lv
theorem zH.at {ls : Array Slot} {nL : Nat} {L : zV} (h : zH ls nL L) {i : Nat} {v : Value} (hi : L[i]? = some (some v)) : ls[i]? = some (.val v) := by
  obtain ⟨-, lv, h1, h2⟩ := h
  exact h1.2.2 (i, v) (h2 i v hi)
theorem zs1_len : ∀ (L : zV) (i : Nat) (v : Value), (zs1 L i v).length = L.length
  | [], _, _ => rfl
  | _ :: _, 0, _ => rfl
  | _ :: L, i + 1, v => congrArg Nat.succ (zs1_len L i v)
theorem zs2_len : ∀ (L : zV) (i : Nat) (v : Value), (zs2 L i v).length = L.length
  | [], _, _ => rfl
  | [_], 0, _ => rfl
  | _ :: _ :: _, 0, _ => rfl
  | _ :: L, i + 1, v => congrArg Nat.succ (zs2_len L i v)
theorem zcl_some {o : Option Value} {u : Value} (h : zcl o = some u) : o = some u ∧ u.category ≠ 2 := by
  cases o with
  | none => cases h
  | some x =>
    unfold zcl at h
    by_cases hx : x.category = 2
    · simp only [hx, if_true] at h; cases h
    · simp only [hx, if_false] at h
      cases h
      exact ⟨rfl, hx⟩
theorem zs1_at : ∀ (L : zV) (i : Nat) (v : Value) (j : Nat) (u : Value), (zs1 L i v)[j]? = some (some u) → (j = i ∧ u = v) ∨ (j ≠ i ∧ L[j]? = some (some u) ∧ ¬ (j + 1 = i ∧ u.category = 2))
  | [], i, v, j, u, h => by simp [zs1] at h
  | o :: L, 0, v, j, u, h => by
    cases j with
    | zero => simp [zs1] at h; exact Or.inl ⟨rfl, h.symm⟩
    | succ j => simp [zs1] at h; exact Or.inr ⟨by omega, by simpa using h, by omega⟩
  | o :: L, i + 1, v, j, u, h => by
    cases j with
    | zero =>
      refine Or.inr ⟨by omega, ?_⟩
      by_cases hi : i = 0
      · subst hi
        simp only [zs1, if_true, List.getElem?_cons_zero, Option.some.injEq] at h
        obtain ⟨h1, h2⟩ := zcl_some h
        exact ⟨by simp [h1], fun q => h2 q.2⟩
      · simp only [zs1, hi, if_false, List.getElem?_cons_zero, Option.some.injEq] at h
        exact ⟨by simp [h], fun q => by omega⟩
    | succ j =>
      simp only [zs1, List.getElem?_cons_succ] at h
      rcases zs1_at L i v j u h with ⟨h1, h2⟩ | ⟨h1, h2, h3⟩
      · exact Or.inl ⟨by omega, h2⟩
      · exact Or.inr ⟨by omega, by simpa using h2, fun q => h3 ⟨by omega, q.2⟩⟩
theorem zs2_at : ∀ (L : zV) (i : Nat) (v : Value) (j : Nat) (u : Value), (zs2 L i v)[j]? = some (some u) → (j = i ∧ u = v) ∨ (j ≠ i ∧ j ≠ i + 1 ∧ L[j]? = some (some u) ∧ ¬ (j + 1 = i ∧ u.category = 2))
  | [], i, v, j, u, h => by simp [zs2] at h
  | [o], 0, v, j, u, h => by
    cases j with
    | zero => simp [zs2] at h; exact Or.inl ⟨rfl, h.symm⟩
    | succ j => simp [zs2] at h
  | o :: o2 :: L, 0, v, j, u, h => by
    cases j with
    | zero => simp [zs2] at h; exact Or.inl ⟨rfl, h.symm⟩
    | succ j =>
      cases j with
      | zero => simp [zs2] at h
      | succ j => simp [zs2] at h; exact Or.inr ⟨by omega, by omega, by simpa using h, by omega⟩
  | o :: L, i + 1, v, j, u, h => by
    cases j with
    | zero =>
      refine Or.inr ⟨by omega, by omega, ?_⟩
      by_cases hi : i = 0
      · subst hi
        simp only [zs2, if_true, List.getElem?_cons_zero, Option.some.injEq] at h
        obtain ⟨h1, h2⟩ := zcl_some h
        exact ⟨by simp [h1], fun q => h2 q.2⟩
      · simp only [zs2, hi, if_false, List.getElem?_cons_zero, Option.some.injEq] at h
        exact ⟨by simp [h], fun q => by omega⟩
    | succ j =>
      simp only [zs2, List.getElem?_cons_succ] at h
      rcases zs2_at L i v j u h with ⟨h1, h2⟩ | ⟨h1, h2, h3, h4⟩
      · exact Or.inl ⟨by omega, h2⟩
      · exact Or.inr ⟨by omega, by omega, by simpa using h3, fun q => h4 ⟨by omega, q.2⟩⟩
/-- behind a store of one word: the list that the kit's row asks for serves -/
theorem zH.store1 {ls : Array Slot} {nL : Nat} {L : zV} (h : zH ls nL L) (i : Nat) (v : Value) : ∃ lv : List (Nat × Value), lv_has ls nL lv ∧ ∀ ls' : Array Slot, lv_has ls' nL ((i, v) :: lv.filter (fun q => !(q.1 == i) && !(q.1 + 1 == i && q.2.category == 2))) → zH ls' nL (zs1 L i v) := by
  obtain ⟨h0, lv, h1, h2⟩ := h
  refine ⟨lv, h1, fun ls' h' => ⟨(zs1_len L i v).trans h0, _, h', fun j u hj => ?_⟩⟩
  rcases zs1_at L i v j u hj with ⟨rfl, rfl⟩ | ⟨a1, a2, a3⟩
  · exact List.mem_cons_self
  · refine List.mem_cons_of_mem _ (List.mem_filter.mpr ⟨h2 j u a2, ?_⟩)
    by_cases hj1 : j + 1 = i
    · have : u.category ≠ 2 := fun q => a3 ⟨hj1, q⟩
      simp [a1, this]
    · simp [a1, hj1]
theorem zH.store2 {ls : Array Slot} {nL : Nat} {L : zV} (h : zH ls nL L) (i : Nat) (v : Value) : ∃ lv : List (Nat × Value), lv_has ls nL lv ∧ ∀ ls' : Array Slot, lv_has ls' nL ((i, v) :: lv.filter (fun q => !(q.1 == i) && (!(q.1 == i + 1) && !(q.1 + 1 == i && q.2.category == 2)))) → zH ls' nL (zs2 L i v) := by
  obtain ⟨h0, lv, h1, h2⟩ := h
  refine ⟨lv, h1, fun ls' h' => ⟨(zs2_len L i v).trans h0, _, h', fun j u hj => ?_⟩⟩
  rcases zs2_at L i v j u hj with ⟨rfl, rfl⟩ | ⟨a1, a2, a3, a4⟩
  · exact List.mem_cons_self
  · refine List.mem_cons_of_mem _ (List.mem_filter.mpr ⟨h2 j u a3, ?_⟩)
    by_cases hj1 : j + 1 = i
    · have : u.category ≠ 2 := fun q => a4 ⟨hj1, q⟩
      simp [a1, a2, this]
    · simp [a1, a2, hj1]
/-! the machine behind it -/
abbrev zMt : Type := Nat → MethodName × ByteArray × Nat × Option FieldType
def zC (mt : zMt) (big nst : List Cond) (D : va_G) (cl : List vw_C) (tys : List (ClassId × FieldType)) (d K N μ : Nat) (p : Program) (R : Room) (s : State) (m : MethodId) (args : Array Value) (meth : Method) (c : Code) : Prop :=
  p.tables.exec = Jvm.exec ∧ c.code = (mt μ).2.1 ∧ c.maxLocals = (mt μ).2.2.1 ∧ meth.sig.returnType = (mt μ).2.2.2 ∧ (∀ w ∈ big, w.before args s = true) ∧ s.vm.findClass (mt μ).1.cls = some m.cls ∧ meth.locks = false ∧ meth.name = (mt μ).1.name ∧ va_K D cl tys s ∧ d ≤ R.frames ∧ 64 * d ≤ R.locals ∧ K ≤ R.cells ∧ N ≤ R.slots ∧ ww_N nst s
/-- behind a method: it returned, or threw the object at a; the world, what was taken; the frame -/
def zO (D : va_G) (cl : List vw_C) (tys : List (ClassId × FieldType)) (b0 : Nat) (Q : zQ) (st : State) (oc : Outcome) (t : State) : Prop :=
  (∃ (res : Option Value ⊕ Nat) (u : ww_W × Nat × Nat), ((∃ v : Option Value, res = .inl v ∧ oc = .returned v) ∨ (∃ a : Nat, res = .inr a ∧ oc = .threw a)) ∧ Q res u.1 u.2.1 u.2.2 ∧ ww_B D cl tys b0 st.heap.size (ww_t st.heap) u t) ∧ va_F (ww_F b0) st t
def zMQ (D : va_G) (cl : List vw_C) (tys : List (ClassId × FieldType)) (b0 : Nat) (below : List Frame) (Q : zQ) (s : State) (mc ms : Nat) : State → Prop := fun t =>
  ∃ o : Outcome, t.status = .running ∧ Ended t below o ∧ zO D cl tys b0 Q s o t ∧ ∃ Ls : List Loc, (s.WarmedH t.vm ∧ s.sameButNew ({ t with vm := s.vm } : State) Ls mc ms) ∧ ∀ q ∈ Ls, b0 ≤ q.base
theorem W_mono {p : Program} {l : Launch} {e : Env} {R : Room} {s : State} {m : MethodId} {args : Array Value} {below : List Frame} {meth : Method} {c : Code} {H : Heap} {locs : List Loc} {cells slots : Nat} {Q Q' : State → Prop} {g : JFrame} (h : W p l e R s m args below meth c H locs cells slots Q g) (hq : ∀ t, Q t → Q' t) : W p l e R s m args below meth c H locs cells slots Q' g := by
  intro T hT X
  obtain ⟨t, a, b⟩ := h T hT X
  exact ⟨t, a, hq t b⟩
def zM (l : Launch) (mt : zMt) (big nst : List Cond) (D : va_G) (cl : List vw_C) (tys : List (ClassId × FieldType)) (b0 : Nat) : zP := fun d K N μ pc L st w k n Q =>
  ∀ (p : Program) (e : Env) (R : Room) (s : State) (m : MethodId) (args : Array Value) (below : List Frame) (meth : Method) (c : Code), zC mt big nst D cl tys d K N μ p R s m args meth c →
    ∀ (H : Heap) (locs : List Loc) (ls : Array Slot), ww_I D cl b0 w s.heap H locs → zH ls (mt μ).2.2.1 L → W p l e R s m args below meth c H locs k n (zMQ D cl tys b0 below Q s K N) (F0 m pc ls st)
def zS (l : Launch) (mt : zMt) (big nst : List Cond) (D : va_G) (cl : List vw_C) (tys : List (ClassId × FieldType)) (b0 : Nat) (μ pc : Nat) (tr : zP → zP) : Prop :=
  ∀ (d K N : Nat) (L : zV) (st : List Value) (w : ww_W) (k n : Nat) (Q : zQ), tr (zM l mt big nst D cl tys b0) d K N μ pc L st w k n Q → zM l mt big nst D cl tys b0 d K N μ pc L st w k n Q
theorem zR.sound {T : Nat → Nat → Option (zP → zP)} {l : Launch} {mt : zMt} {big nst : List Cond} {D : va_G} {cl : List vw_C} {tys : List (ClassId × FieldType)} {b0 : Nat} (hS : ∀ (μ pc : Nat) (tr : zP → zP), T μ pc = some tr → zS l mt big nst D cl tys b0 μ pc tr)
    {d K N μ pc : Nat} {L : zV} {st : List Value} {w : ww_W} {k n : Nat} {Q : zQ} (h : zR T d K N μ pc L st w k n Q) : zM l mt big nst D cl tys b0 d K N μ pc L st w k n Q :=
  h (zM l mt big nst D cl tys b0) (fun d K N μ pc L st w k n Q tr ht hx => hS μ pc tr ht d K N L st w k n Q hx)
/-! instructions that leave the world alone: a function of locals and stack -/
def zi (g : zV → List Value → Option (zV × List Value)) (len : Nat) : zP → zP := fun P d K N μ pc L st w k n Q => ∃ (L' : zV) (st' : List Value), g L st = some (L', st') ∧ P d K N μ (pc + len) L' st' w k n Q
theorem zi_mono (g : zV → List Value → Option (zV × List Value)) (len : Nat) : zMono (zi g len) := fun _ _ h _ _ _ _ _ _ _ _ _ _ _ ⟨L', st', h1, h2⟩ => ⟨L', st', h1, h _ _ _ _ _ _ _ _ _ _ _ h2⟩
def zg (big : List Cond) (own : String) (cc : ByteArray) (nL pc len : Nat) (g : zV → List Value → Option (zV × List Value)) : Prop :=
  ∀ (p : Program) (l : Launch) (e : Env) (R : Room) (s : State) (m : MethodId) (args : Array Value) (below : List Frame) (meth : Method) (c : Code) (H : Heap) (locs : List Loc) (k n : Nat) (Qf : State → Prop) (ls : Array Slot) (L : zV) (st : List Value) (L' : zV) (st' : List Value),
    p.tables.exec = Jvm.exec → c.code = cc → (∀ w ∈ big, w.before args s = true) → s.vm.findClass own = some m.cls → zH ls nL L → g L st = some (L', st') →
    (∀ ls' : Array Slot, zH ls' nL L' → W p l e R s m args below meth c H locs k n Qf (F0 m (pc + len) ls' st')) → W p l e R s m args below meth c H locs k n Qf (F0 m pc ls st)
theorem zi_ok {l : Launch} {mt : zMt} {big nst : List Cond} {D : va_G} {cl : List vw_C} {tys : List (ClassId × FieldType)} {b0 μ pc len : Nat} {g : zV → List Value → Option (zV × List Value)} (h : zg big (mt μ).1.cls (mt μ).2.1 (mt μ).2.2.1 pc len g) : zS l mt big nst D cl tys b0 μ pc (zi g len) := by
  intro d K N L st w k n Q hx p e R s m args below meth c hC H locs ls hI hL
  obtain ⟨L', st', hg, hk⟩ := hx
  exact h p l e R s m args below meth c H locs k n _ ls L st L' st' hC.1 hC.2.1 hC.2.2.2.2.1 hC.2.2.2.2.2.1 hL hg (fun ls' hL' => hk p e R s m args below meth c hC H locs ls' hI hL')
section ZG
variable {big : List Cond} {own : String} {cc : ByteArray} {nL pc : Nat}
def gC (v : Value) : zV → List Value → Option (zV × List Value) := fun L st => some (L, v :: st)
theorem zg_iconst {n : Int} {v : Int32} (hd : decode cc pc = .ok (.iconst n, 1)) (hv : Int32.ofInt n = v) : zg big own cc nL pc 1 (gC (.int v)) := by
  intro p l e R s m args below meth c H locs k n Qf ls L st L' st' hx hb hw hown hL hg kk
  cases hg
  exact lv_iconst hx hb hd hv (kk ls hL)
theorem zg_bipush {n : Int} {v : Int32} (hd : decode cc pc = .ok (.bipush n, 2)) (hv : (Int8.ofInt n).toInt32 = v) : zg big own cc nL pc 2 (gC (.int v)) := by
  intro p l e R s m args below meth c H locs k n Qf ls L st L' st' hx hb hw hown hL hg kk
  cases hg
  exact lv_bipush hx hb hd hv (kk ls hL)
theorem zg_sipush {n : Int} {v : Int32} (hd : decode cc pc = .ok (.sipush n, 3)) (hv : (Int16.ofInt n).toInt32 = v) : zg big own cc nL pc 3 (gC (.int v)) := by
  intro p l e R s m args below meth c H locs k n Qf ls L st L' st' hx hb hw hown hL hg kk
  cases hg
  exact lv_sipush hx hb hd hv (kk ls hL)
theorem zg_lconst {n : Fin 2} {v : Int64} (hd : decode cc pc = .ok (.lconst n, 1)) (hv : Int64.ofNat (n : Nat) = v) : zg big own cc nL pc 1 (gC (.long v)) := by
  intro p l e R s m args below meth c H locs k n Qf ls L st L' st' hx hb hw hown hL hg kk
  cases hg
  exact lv_lconst hx hb hd hv (kk ls hL)
theorem zg_null (hd : decode cc pc = .ok (.aconst_null, 1)) : zg big own cc nL pc 1 (gC .null) := by
  intro p l e R s m args below meth c H locs k n Qf ls L st L' st' hx hb hw hown hL hg kk
  cases hg
  exact lv_null hx hb hd (kk ls hL)
theorem zg_ldc {index : Nat} {v : Int32} (hd : decode cc pc = .ok (.ldc index, 2)) (hc : Jvm.Cond.constant own index v ∈ big) : zg big own cc nL pc 2 (gC (.int v)) := by
  intro p l e R s m args below meth c H locs k n Qf ls L st L' st' hx hb hw hown hL hg kk
  cases hg
  exact lv_ldc hx hb hown (hw _ hc) hd (kk ls hL)
theorem zg_ldc2 {index : Nat} {v : Int64} (hd : decode cc pc = .ok (.ldc2_w index, 3)) (hc : Jvm.Cond.constantLong own index v ∈ big) : zg big own cc nL pc 3 (gC (.long v)) := by
  intro p l e R s m args below meth c H locs k n Qf ls L st L' st' hx hb hw hown hL hg kk
  cases hg
  exact lv_ldc2 hx hb hown (hw _ hc) hd (kk ls hL)
def gIl (i : Nat) : zV → List Value → Option (zV × List Value) := fun L st => match L[i]? with
  | some (some (.int x)) => some (L, .int x :: st)
  | _ => none
def gLl (i : Nat) : zV → List Value → Option (zV × List Value) := fun L st => match L[i]? with
  | some (some (.long x)) => some (L, .long x :: st)
  | _ => none
def gAl (i : Nat) : zV → List Value → Option (zV × List Value) := fun L st => match L[i]? with
  | some (some (.ref x)) => some (L, .ref x :: st)
  | some (some .null) => some (L, .null :: st)
  | _ => none
theorem zg_iload_n {j : Fin 4} {i : Nat} (hd : decode cc pc = .ok (.iload_n j, 1)) (hi : (j : Nat) = i) : zg big own cc nL pc 1 (gIl i) := by
  intro p l e R s m args below meth c H locs k n Qf ls L st L' st' hx hb hw hown hL hg kk
  unfold gIl at hg
  split at hg
  · rename_i x hx1
    cases hg
    exact lv_iload_n hx hb hd hi (hL.at hx1) (kk ls hL)
  · cases hg
theorem zg_iload {i : Nat} (hd : decode cc pc = .ok (.iload i, 2)) : zg big own cc nL pc 2 (gIl i) := by
  intro p l e R s m args below meth c H locs k n Qf ls L st L' st' hx hb hw hown hL hg kk
  unfold gIl at hg
  split at hg
  · rename_i x hx1
    cases hg
    exact lv_iload hx hb hd (hL.at hx1) (kk ls hL)
  · cases hg
theorem zg_lload_n {j : Fin 4} {i : Nat} (hd : decode cc pc = .ok (.lload_n j, 1)) (hi : (j : Nat) = i) : zg big own cc nL pc 1 (gLl i) := by
  intro p l e R s m args below meth c H locs k n Qf ls L st L' st' hx hb hw hown hL hg kk
  unfold gLl at hg
  split at hg
  · rename_i x hx1
    cases hg
    exact lv_lload_n hx hb hd hi (hL.at hx1) (kk ls hL)
  · cases hg
theorem zg_lload {i : Nat} (hd : decode cc pc = .ok (.lload i, 2)) : zg big own cc nL pc 2 (gLl i) := by
  intro p l e R s m args below meth c H locs k n Qf ls L st L' st' hx hb hw hown hL hg kk
  unfold gLl at hg
  split at hg
  · rename_i x hx1
    cases hg
    exact lv_lload hx hb hd (hL.at hx1) (kk ls hL)
  · cases hg
theorem zg_aload_n {j : Fin 4} {i : Nat} (hd : decode cc pc = .ok (.aload_n j, 1)) (hi : (j : Nat) = i) : zg big own cc nL pc 1 (gAl i) := by
  intro p l e R s m args below meth c H locs k n Qf ls L st L' st' hx hb hw hown hL hg kk
  unfold gAl at hg
  split at hg
  · rename_i x hx1
    cases hg
    exact lv_aload_n hx hb hd hi (hL.at hx1) (kk ls hL)
  · rename_i hx1
    cases hg
    exact lv_aload_nN hx hb hd hi (hL.at hx1) (kk ls hL)
  · cases hg
theorem zg_aload {i : Nat} (hd : decode cc pc = .ok (.aload i, 2)) : zg big own cc nL pc 2 (gAl i) := by
  intro p l e R s m args below meth c H locs k n Qf ls L st L' st' hx hb hw hown hL hg kk
  unfold gAl at hg
  split at hg
  · rename_i x hx1
    cases hg
    exact lv_aload hx hb hd (hL.at hx1) (kk ls hL)
  · rename_i hx1
    cases hg
    exact lv_aloadN hx hb hd (hL.at hx1) (kk ls hL)
  · cases hg
def gIs (i : Nat) : zV → List Value → Option (zV × List Value) := fun L st => match st with
  | .int x :: r => some (zs1 L i (.int x), r)
  | _ => none
def gLs (i : Nat) : zV → List Value → Option (zV × List Value) := fun L st => match st with
  | .long x :: r => some (zs2 L i (.long x), r)
  | _ => none
def gAs (i : Nat) : zV → List Value → Option (zV × List Value) := fun L st => match st with
  | .ref x :: r => some (zs1 L i (.ref x), r)
  | .null :: r => some (zs1 L i .null, r)
  | _ => none
theorem zg_istore_n {j : Fin 4} {i : Nat} (hd : decode cc pc = .ok (.istore_n j, 1)) (hi : (j : Nat) = i) (hn : i < nL) : zg big own cc nL pc 1 (gIs i) := by
  intro p l e R s m args below meth c H locs k n Qf ls L st L' st' hx hb hw hown hL hg kk
  unfold gIs at hg
  split at hg
  · rename_i x r
    cases hg
    obtain ⟨lv, h1, h2⟩ := hL.store1 i (.int x)
    exact lv_istore_n hx hb hd hi h1 hn rfl (fun ls' h' => kk ls' (h2 ls' h'))
  · cases hg
theorem zg_istore {i : Nat} (hd : decode cc pc = .ok (.istore i, 2)) (hn : i < nL) : zg big own cc nL pc 2 (gIs i) := by
  intro p l e R s m args below meth c H locs k n Qf ls L st L' st' hx hb hw hown hL hg kk
  unfold gIs at hg
  split at hg
  · rename_i x r
    cases hg
    obtain ⟨lv, h1, h2⟩ := hL.store1 i (.int x)
    exact lv_istore hx hb hd h1 hn rfl (fun ls' h' => kk ls' (h2 ls' h'))
  · cases hg
theorem zg_lstore_n {j : Fin 4} {i : Nat} (hd : decode cc pc = .ok (.lstore_n j, 1)) (hi : (j : Nat) = i) (hn : i + 1 < nL) : zg big own cc nL pc 1 (gLs i) := by
  intro p l e R s m args below meth c H locs k n Qf ls L st L' st' hx hb hw hown hL hg kk
  unfold gLs at hg
  split at hg
  · rename_i x r
    cases hg
    obtain ⟨lv, h1, h2⟩ := hL.store2 i (.long x)
    exact lv_lstore_n hx hb hd hi h1 hn rfl (fun ls' h' => kk ls' (h2 ls' h'))
  · cases hg
theorem zg_lstore {i : Nat} (hd : decode cc pc = .ok (.lstore i, 2)) (hn : i + 1 < nL) : zg big own cc nL pc 2 (gLs i) := by
  intro p l e R s m args below meth c H locs k n Qf ls L st L' st' hx hb hw hown hL hg kk
  unfold gLs at hg
  split at hg
  · rename_i x r
    cases hg
    obtain ⟨lv, h1, h2⟩ := hL.store2 i (.long x)
    exact lv_lstore hx hb hd h1 hn rfl (fun ls' h' => kk ls' (h2 ls' h'))
  · cases hg
theorem zg_astore_n {j : Fin 4} {i : Nat} (hd : decode cc pc = .ok (.astore_n j, 1)) (hi : (j : Nat) = i) (hn : i < nL) : zg big own cc nL pc 1 (gAs i) := by
  intro p l e R s m args below meth c H locs k n Qf ls L st L' st' hx hb hw hown hL hg kk
  unfold gAs at hg
  split at hg
  · rename_i x r
    cases hg
    obtain ⟨lv, h1, h2⟩ := hL.store1 i (.ref x)
    exact lv_astore_n hx hb hd hi h1 hn rfl (fun ls' h' => kk ls' (h2 ls' h'))
  · rename_i r
    cases hg
    obtain ⟨lv, h1, h2⟩ := hL.store1 i .null
    exact lv_astore_nN hx hb hd hi h1 hn rfl (fun ls' h' => kk ls' (h2 ls' h'))
  · cases hg
theorem zg_astore {i : Nat} (hd : decode cc pc = .ok (.astore i, 2)) (hn : i < nL) : zg big own cc nL pc 2 (gAs i) := by
  intro p l e R s m args below meth c H locs k n Qf ls L st L' st' hx hb hw hown hL hg kk
  unfold gAs at hg
  split at hg
  · rename_i x r
    cases hg
    obtain ⟨lv, h1, h2⟩ := hL.store1 i (.ref x)
    exact lv_astore hx hb hd h1 hn rfl (fun ls' h' => kk ls' (h2 ls' h'))
  · rename_i r
    cases hg
    obtain ⟨lv, h1, h2⟩ := hL.store1 i .null
    exact lv_astoreN hx hb hd h1 hn rfl (fun ls' h' => kk ls' (h2 ls' h'))
  · cases hg
def gIinc (i : Nat) (a : Int32) : zV → List Value → Option (zV × List Value) := fun L st => match L[i]? with
  | some (some (.int x)) => some (zs1 L i (.int (x + a)), st)
  | _ => none
theorem zg_iinc {i : Nat} {n : Int} {a : Int32} (hd : decode cc pc = .ok (.iinc i n, 3)) (ha : Int32.ofInt n = a) (hn : i < nL) : zg big own cc nL pc 3 (gIinc i a) := by
  intro p l e R s m args below meth c H locs k n Qf ls L st L' st' hx hb hw hown hL hg kk
  unfold gIinc at hg
  split at hg
  · rename_i x hx1
    cases hg
    obtain ⟨h0, lv, h1, h2⟩ := id hL
    obtain ⟨q, hq⟩ := List.getElem?_of_mem (h2 i _ hx1)
    obtain ⟨lv2, h3, h4⟩ := (show zH ls nL L from ⟨h0, lv, h1, h2⟩).store1 i (.int (x + a))
    obtain ⟨q2, hq2⟩ : ∃ q2 : Nat, lv2[q2]? = some (i, .int x) ∨ True := ⟨0, Or.inr trivial⟩
    have key : zH ls nL L := hL
    refine lv_iinc hx hb hd h1 hq (by rw [ha]) hn rfl (fun ls' h' => kk ls' ⟨(zs1_len L i _).trans h0, _, h', fun j u hj => ?_⟩)
    rcases zs1_at L i _ j u hj with ⟨rfl, rfl⟩ | ⟨a1, a2, a3⟩
    · exact List.mem_cons_self
    · refine List.mem_cons_of_mem _ (List.mem_filter.mpr ⟨h2 j u a2, ?_⟩)
      by_cases hj1 : j + 1 = i
      · have : u.category ≠ 2 := fun q => a3 ⟨hj1, q⟩
        simp [a1, this]
      · simp [a1, hj1]
  · cases hg
/-- two ints to one -/
def gII (f : Int32 → Int32 → Int32) : zV → List Value → Option (zV × List Value) := fun L st => match st with
  | .int y :: .int x :: r => some (L, .int (f x y) :: r)
  | _ => none
def gLL (f : Int64 → Int64 → Int64) : zV → List Value → Option (zV × List Value) := fun L st => match st with
  | .long y :: .long x :: r => some (L, .long (f x y) :: r)
  | _ => none
theorem zg_iadd (hd : decode cc pc = .ok (.iadd, 1)) : zg big own cc nL pc 1 (gII (fun x y => x + y)) := by
  intro p l e R s m args below meth c H locs k n Qf ls L st L' st' hx hb hw hown hL hg kk
  unfold gII at hg
  split at hg
  · cases hg; exact lv_iadd hx hb hd (kk ls hL)
  · cases hg
theorem zg_isub (hd : decode cc pc = .ok (.isub, 1)) : zg big own cc nL pc 1 (gII (fun x y => x - y)) := by
  intro p l e R s m args below meth c H locs k n Qf ls L st L' st' hx hb hw hown hL hg kk
  unfold gII at hg
  split at hg
  · cases hg; exact lv_isub hx hb hd (kk ls hL)
  · cases hg
theorem zg_imul (hd : decode cc pc = .ok (.imul, 1)) : zg big own cc nL pc 1 (gII (fun x y => x * y)) := by
  intro p l e R s m args below meth c H locs k n Qf ls L st L' st' hx hb hw hown hL hg kk
  unfold gII at hg
  split at hg
  · cases hg; exact lv_imul hx hb hd (kk ls hL)
  · cases hg
theorem zg_iand (hd : decode cc pc = .ok (.iand, 1)) : zg big own cc nL pc 1 (gII (fun x y => x &&& y)) := by
  intro p l e R s m args below meth c H locs k n Qf ls L st L' st' hx hb hw hown hL hg kk
  unfold gII at hg
  split at hg
  · cases hg; exact lv_iand hx hb hd (kk ls hL)
  · cases hg
theorem zg_ior (hd : decode cc pc = .ok (.ior, 1)) : zg big own cc nL pc 1 (gII (fun x y => x ||| y)) := by
  intro p l e R s m args below meth c H locs k n Qf ls L st L' st' hx hb hw hown hL hg kk
  unfold gII at hg
  split at hg
  · cases hg; exact lv_ior hx hb hd (kk ls hL)
  · cases hg
theorem zg_ixor (hd : decode cc pc = .ok (.ixor, 1)) : zg big own cc nL pc 1 (gII (fun x y => x ^^^ y)) := by
  intro p l e R s m args below meth c H locs k n Qf ls L st L' st' hx hb hw hown hL hg kk
  unfold gII at hg
  split at hg
  · cases hg; exact lv_ixor hx hb hd (kk ls hL)
  · cases hg
theorem zg_ladd (hd : decode cc pc = .ok (.ladd, 1)) : zg big own cc nL pc 1 (gLL (fun x y => x + y)) := by
  intro p l e R s m args below meth c H locs k n Qf ls L st L' st' hx hb hw hown hL hg kk
  unfold gLL at hg
  split at hg
  · cases hg; exact lv_ladd hx hb hd (kk ls hL)
  · cases hg
theorem zg_lsub (hd : decode cc pc = .ok (.lsub, 1)) : zg big own cc nL pc 1 (gLL (fun x y => x - y)) := by
  intro p l e R s m args below meth c H locs k n Qf ls L st L' st' hx hb hw hown hL hg kk
  unfold gLL at hg
  split at hg
  · cases hg; exact lv_lsub hx hb hd (kk ls hL)
  · cases hg
theorem zg_lmul (hd : decode cc pc = .ok (.lmul, 1)) : zg big own cc nL pc 1 (gLL (fun x y => x * y)) := by
  intro p l e R s m args below meth c H locs k n Qf ls L st L' st' hx hb hw hown hL hg kk
  unfold gLL at hg
  split at hg
  · cases hg; exact lv_lmul hx hb hd (kk ls hL)
  · cases hg
def gIneg : zV → List Value → Option (zV × List Value) := fun L st => match st with
  | .int x :: r => some (L, .int (-x) :: r)
  | _ => none
theorem zg_ineg (hd : decode cc pc = .ok (.ineg, 1)) : zg big own cc nL pc 1 gIneg := by
  intro p l e R s m args below meth c H locs k n Qf ls L st L' st' hx hb hw hown hL hg kk
  unfold gIneg at hg
  split at hg
  · cases hg; exact lv_ineg hx hb hd (kk ls hL)
  · cases hg
def gI2l : zV → List Value → Option (zV × List Value) := fun L st => match st with
  | .int x :: r => some (L, .long x.toInt64 :: r)
  | _ => none
theorem zg_i2l (hd : decode cc pc = .ok (.i2l, 1)) : zg big own cc nL pc 1 gI2l := by
  intro p l e R s m args below meth c H locs k n Qf ls L st L' st' hx hb hw hown hL hg kk
  unfold gI2l at hg
  split at hg
  · cases hg; exact lv_i2l hx hb hd rfl (kk ls hL)
  · cases hg
def gL2i : zV → List Value → Option (zV × List Value) := fun L st => match st with
  | .long x :: r => some (L, .int x.toInt32 :: r)
  | _ => none
theorem zg_l2i (hd : decode cc pc = .ok (.l2i, 1)) : zg big own cc nL pc 1 gL2i := by
  intro p l e R s m args below meth c H locs k n Qf ls L st L' st' hx hb hw hown hL hg kk
  unfold gL2i at hg
  split at hg
  · cases hg; exact lv_l2i hx hb hd rfl (kk ls hL)
  · cases hg
def gLcmp : zV → List Value → Option (zV × List Value) := fun L st => match st with
  | .long y :: .long x :: r => some (L, .int (lg_cmp x y) :: r)
  | _ => none
theorem zg_lcmp (hd : decode cc pc = .ok (.lcmp, 1)) : zg big own cc nL pc 1 gLcmp := by
  intro p l e R s m args below meth c H locs k n Qf ls L st L' st' hx hb hw hown hL hg kk
  unfold gLcmp at hg
  split at hg
  · cases hg; exact W.lcmp hx hb hd (kk ls hL)
  · cases hg
/-- a value of one word, by its kind -/
def z1 (v : Value) : Bool := match v with
  | .int _ => true
  | .ref _ => true
  | .null => true
  | _ => false
theorem z1_cat {v : Value} (h : z1 v = true) : v.category = 1 := by cases v <;> first | rfl | cases h
def gDup : zV → List Value → Option (zV × List Value) := fun L st => match st with
  | v :: r => if z1 v = true then some (L, v :: v :: r) else none
  | _ => none
theorem zg_dup (hd : decode cc pc = .ok (.dup, 1)) : zg big own cc nL pc 1 gDup := by
  intro p l e R s m args below meth c H locs k n Qf ls L st L' st' hx hb hw hown hL hg kk
  unfold gDup at hg
  split at hg
  · split at hg
    · rename_i h1
      cases hg; exact lv_dup hx hb hd (z1_cat h1) (kk ls hL)
    · cases hg
  · cases hg
def gPop : zV → List Value → Option (zV × List Value) := fun L st => match st with
  | v :: r => if z1 v = true then some (L, r) else none
  | _ => none
theorem zg_pop (hd : decode cc pc = .ok (.pop, 1)) : zg big own cc nL pc 1 gPop := by
  intro p l e R s m args below meth c H locs k n Qf ls L st L' st' hx hb hw hown hL hg kk
  unfold gPop at hg
  split at hg
  · split at hg
    · rename_i h1
      cases hg; exact lv_pop hx hb hd (z1_cat h1) (kk ls hL)
    · cases hg
  · cases hg
def gDupx1 : zV → List Value → Option (zV × List Value) := fun L st => match st with
  | v :: u :: r => if z1 v = true then (if z1 u = true then some (L, v :: u :: v :: r) else none) else none
  | _ => none
theorem zg_dup_x1 (hd : decode cc pc = .ok (.dup_x1, 1)) : zg big own cc nL pc 1 gDupx1 := by
  intro p l e R s m args below meth c H locs k n Qf ls L st L' st' hx hb hw hown hL hg kk
  unfold gDupx1 at hg
  split at hg
  · split at hg
    · rename_i h1
      split at hg
      · rename_i h2
        cases hg; exact lv_dup_x1 hx hb hd (z1_cat h1) (z1_cat h2) (kk ls hL)
      · cases hg
    · cases hg
  · cases hg
def gDup2 : zV → List Value → Option (zV × List Value) := fun L st => match st with
  | v :: u :: r => if z1 v = true then (if z1 u = true then some (L, v :: u :: v :: u :: r) else none) else none
  | _ => none
theorem zg_dup2 (hd : decode cc pc = .ok (.dup2, 1)) : zg big own cc nL pc 1 gDup2 := by
  intro p l e R s m args below meth c H locs k n Qf ls L st L' st' hx hb hw hown hL hg kk
  unfold gDup2 at hg
  split at hg
  · split at hg
    · rename_i h1
      split at hg
      · rename_i h2
        cases hg; exact lv_dup2_11 hx hb hd (z1_cat h1) (z1_cat h2) (kk ls hL)
      · cases hg
    · cases hg
  · cases hg
end ZG
