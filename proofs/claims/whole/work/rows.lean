section
/-! Worlds as maps: what lies at an address. A call hands the whole world on; its contract says how the map changes. -/
abbrev ww_W : Type := Nat → Option va_E
def ww_l (w : ww_W) (z : Nat) : va_W := (List.range z).filterMap fun a => (w a).map fun e => (a, e)
theorem ww_l_mem {w : ww_W} {z : Nat} {q : Nat × va_E} : q ∈ ww_l w z ↔ q.1 < z ∧ w q.1 = some q.2 := by
  unfold ww_l
  rw [List.mem_filterMap]
  constructor
  · rintro ⟨a, ha, h⟩
    cases hw : w a with
    | none => rw [hw] at h; cases h
    | some e =>
      rw [hw] at h
      cases h
      exact ⟨List.mem_range.mp ha, hw⟩
  · rintro ⟨h1, h2⟩
    exact ⟨q.1, List.mem_range.mpr h1, by rw [h2]; rfl⟩
theorem ww_l_fst (w : ww_W) (l : List Nat) : (l.filterMap fun a => (w a).map fun e => (a, e)).map (fun q : Nat × va_E => q.1) = l.filter (fun a => (w a).isSome) := by
  induction l with
  | nil => rfl
  | cons a l ih =>
    cases hw : w a with
    | none =>
      rw [List.filterMap_cons_none (by simp [hw]), List.filter_cons_of_neg (by simp [hw])]
      exact ih
    | some e =>
      rw [List.filterMap_cons_some (b := (a, e)) (by simp [hw]), List.filter_cons_of_pos (by simp [hw]), List.map_cons, ih]
theorem ww_l_nd (w : ww_W) (z : Nat) : ((ww_l w z).map (fun q : Nat × va_E => q.1)).Nodup := by
  unfold ww_l
  rw [ww_l_fst]
  exact List.Pairwise.filter _ List.nodup_range
theorem ww_l_D {b0 : Nat} {w : ww_W} {z : Nat} (hb : ∀ (a : Nat) (e : va_E), w a = some e → b0 ≤ a) : va_D (fun q => b0 ≤ q) (ww_l w z) := by
  refine ⟨fun i j p q hi hj hpq => ?_, fun k q hk => hb _ _ (ww_l_mem.mp (List.mem_of_getElem? hk)).2⟩
  have hl : i < ((ww_l w z).map (fun q : Nat × va_E => q.1)).length := by rw [List.length_map]; exact (List.getElem?_eq_some_iff.mp hi).1
  refine (List.getElem?_inj hl (ww_l_nd w z)).mp ?_
  rw [List.getElem?_map, List.getElem?_map, hi, hj, Option.map_some, Option.map_some, hpq]
/-- H holds the world w: nothing of it lies under b0; what lies under b0 is as at H0 -/
def ww_I (D : va_G) (cl : List vw_C) (b0 : Nat) (w : ww_W) (H0 H : Heap) (locs : List Loc) : Prop :=
  (∀ (a : Nat) (e : va_E), w a = some e → va_at D cl (a, e) H ∧ b0 ≤ a) ∧ va_S (fun q => b0 ≤ q) H0 H locs ∧ b0 ≤ H0.size
theorem ww_I.P {D : va_G} {cl : List vw_C} {b0 : Nat} {w : ww_W} {H0 H : Heap} {locs : List Loc} (h : ww_I D cl b0 w H0 H locs) : va_P D cl (ww_l w H.size) H := fun _ _ hk => (h.1 _ _ (ww_l_mem.mp (List.mem_of_getElem? hk)).2).1
theorem ww_I.D {D : va_G} {cl : List vw_C} {b0 : Nat} {w : ww_W} {H0 H : Heap} {locs : List Loc} (h : ww_I D cl b0 w H0 H locs) (z : Nat) : va_D (fun q => b0 ≤ q) (ww_l w z) := ww_l_D (fun a e h1 => (h.1 a e h1).2)
theorem ww_I.lt {D : va_G} {cl : List vw_C} {b0 : Nat} {w : ww_W} {H0 H : Heap} {locs : List Loc} (h : ww_I D cl b0 w H0 H locs) {a : Nat} {e : va_E} (he : w a = some e) : a < H.size := (h.1 a e he).1.lt
theorem ww_I.ix {D : va_G} {cl : List vw_C} {b0 : Nat} {w : ww_W} {H0 H : Heap} {locs : List Loc} (h : ww_I D cl b0 w H0 H locs) {a : Nat} {e : va_E} (he : w a = some e) : ∃ q0 : Nat, (ww_l w H.size)[q0]? = some (a, e) :=
  List.getElem?_of_mem (ww_l_mem.mpr ⟨h.lt he, he⟩)
theorem ww_one {D : va_G} {cl : List vw_C} {H : Heap} {a : Nat} {e : va_E} (h : va_at D cl (a, e) H) : va_P D cl [(a, e)] H := by
  intro k q hk
  have hz : k < 1 := (List.getElem?_eq_some_iff.mp hk).1
  rw [show k = 0 by omega] at hk
  cases hk
  exact h
theorem ww_set {D : va_G} {cl : List vw_C} {w : ww_W} {z q0 a : Nat} {e0 e : va_E} {H1 : Heap} (hz : ∀ (a : Nat) (e : va_E), w a = some e → a < z) (h0 : (ww_l w z)[q0]? = some (a, e0)) (hP : va_P D cl ((ww_l w z).set q0 (a, e)) H1) :
    ∀ (b : Nat) (x : va_E), va_up w a (some e) b = some x → va_at D cl (b, x) H1 := by
  intro b x hb
  have hl := (List.getElem?_eq_some_iff.mp h0).1
  by_cases hba : b = a
  · subst hba
    rw [va_up_self] at hb
    cases hb
    exact hP q0 _ (List.getElem?_set_self hl)
  · rw [va_up_ne _ _ hba] at hb
    obtain ⟨j, hj⟩ := List.getElem?_of_mem (ww_l_mem.mpr ⟨hz b x hb, hb⟩ : (b, x) ∈ ww_l w z)
    have hjq : q0 ≠ j := fun q => by
      subst q
      rw [h0] at hj
      exact hba (congrArg Prod.fst (Option.some.inj hj)).symm
    exact hP j _ (by rw [List.getElem?_set_ne hjq]; exact hj)
theorem ww_app {D : va_G} {cl : List vw_C} {w : ww_W} {z q : Nat} {e : va_E} {H1 : Heap} (hz : ∀ (a : Nat) (e : va_E), w a = some e → a < z) (hP : va_P D cl (ww_l w z ++ [(q, e)]) H1) :
    ∀ (b : Nat) (x : va_E), va_up w q (some e) b = some x → va_at D cl (b, x) H1 := by
  intro b x hb
  by_cases hba : b = q
  · subst hba
    rw [va_up_self] at hb
    cases hb
    exact hP (ww_l w z).length _ (by rw [List.getElem?_append_right (Nat.le_refl _), Nat.sub_self]; rfl)
  · rw [va_up_ne _ _ hba] at hb
    obtain ⟨j, hj⟩ := List.getElem?_of_mem (ww_l_mem.mpr ⟨hz b x hb, hb⟩ : (b, x) ∈ ww_l w z)
    exact hP j _ (by rw [List.getElem?_append_left (List.getElem?_eq_some_iff.mp hj).1]; exact hj)
theorem ww_fresh {A : Nat → Prop} {w : ww_W} {z q : Nat} {e : va_E} (hz : ∀ (a : Nat) (e : va_E), w a = some e → a < z) (hD : va_D A (ww_l w z ++ [(q, e)])) : w q = none := by
  cases hw : w q with
  | none => rfl
  | some x =>
    obtain ⟨j, hj⟩ := List.getElem?_of_mem (ww_l_mem.mpr ⟨hz q x hw, hw⟩ : (q, x) ∈ ww_l w z)
    have hl := (List.getElem?_eq_some_iff.mp hj).1
    have := hD.1 j (ww_l w z).length (q, x) (q, e) (by rw [List.getElem?_append_left hl]; exact hj) (by rw [List.getElem?_append_right (Nat.le_refl _), Nat.sub_self]; rfl) rfl
    omega
theorem ww_up_b {w : ww_W} {b0 a : Nat} {e : va_E} (h : ∀ (a : Nat) (e : va_E), w a = some e → b0 ≤ a) (ha : b0 ≤ a) : ∀ (b : Nat) (x : va_E), va_up w a (some e) b = some x → b0 ≤ b := by
  intro b x hb
  by_cases hba : b = a
  · subst hba; exact ha
  · rw [va_up_ne _ _ hba] at hb
    exact h b x hb
theorem ww_I.set {D : va_G} {cl : List vw_C} {b0 : Nat} {w : ww_W} {H0 H H1 : Heap} {locs locs1 : List Loc} {q0 a : Nat} {e0 e : va_E} (h : ww_I D cl b0 w H0 H locs) (h0 : (ww_l w H.size)[q0]? = some (a, e0)) (hP : va_P D cl ((ww_l w H.size).set q0 (a, e)) H1) (hS : va_S (fun q => b0 ≤ q) H0 H1 locs1) : ww_I D cl b0 (va_up w a (some e)) H0 H1 locs1 :=
  ⟨fun b x hb => ⟨ww_set (fun _ _ he => h.lt he) h0 hP b x hb, ww_up_b (fun a e h1 => (h.1 a e h1).2) (h.1 a e0 (ww_l_mem.mp (List.mem_of_getElem? h0)).2).2 b x hb⟩, hS, h.2.2⟩
theorem ww_I.push {D : va_G} {cl : List vw_C} {b0 : Nat} {w : ww_W} {H0 H H1 : Heap} {locs locs1 : List Loc} {q : Nat} {e : va_E} (h : ww_I D cl b0 w H0 H locs) (hP : va_P D cl (ww_l w H.size ++ [(q, e)]) H1) (hD : va_D (fun q => b0 ≤ q) (ww_l w H.size ++ [(q, e)])) (hS : va_S (fun q => b0 ≤ q) H0 H1 locs1) : ww_I D cl b0 (va_up w q (some e)) H0 H1 locs1 :=
  ⟨fun b x hb => ⟨ww_app (fun _ _ he => h.lt he) hP b x hb, ww_up_b (fun a e h1 => (h.1 a e h1).2) (hD.2 (ww_l w H.size).length (q, e) (by rw [List.getElem?_append_right (Nat.le_refl _), Nat.sub_self]; rfl)) b x hb⟩, hS, h.2.2⟩
/-! room: how many slots a heap has; W's figures can be drawn in to what the heap shows -/
def ww_t (H : Heap) : Nat := (H.toList.map (fun c : Cell => c.slots.size)).sum
theorem ww_sum {s T : State} {locs : List Loc} {cells slots : Nat} (h : s.sameButNew T locs cells slots) : ww_t T.heap = ww_t s.heap + ((T.heap.toList.drop s.heap.size).map (fun c : Cell => c.slots.size)).sum := by
  have h1 : (T.heap.toList.take s.heap.size).map (fun c : Cell => c.slots.size) = s.heap.toList.map (fun c : Cell => c.slots.size) := by
    apply List.ext_getElem?
    intro i
    rw [List.getElem?_map, List.getElem?_map, List.getElem?_take]
    by_cases hi : i < s.heap.size
    · rw [if_pos hi, Array.getElem?_toList, Array.getElem?_toList]
      obtain ⟨c', g1, -, g2, -⟩ := h.2.2.2.2.2 i s.heap[i] (Array.getElem?_eq_getElem hi)
      rw [g1, Array.getElem?_eq_getElem hi, Option.map_some, Option.map_some, g2]
    · rw [if_neg hi, Array.getElem?_toList, Array.getElem?_eq_none (Nat.not_lt.mp hi)]
  unfold ww_t
  rw [← h1, ← List.sum_append, ← List.map_append, List.take_append_drop]
section WW1
variable {p : Program} {l : Launch} {e : Env} {R : Room} {s : State} {m : MethodId} {args : Array Value} {below : List Frame} {meth : Method} {c : Code} {H : Heap} {locs : List Loc} {cells slots : Nat} {Q : State → Prop}
theorem ww_know {g : JFrame} (k : H.size ≤ s.heap.size + cells → ww_t H ≤ ww_t s.heap + slots → W p l e R s m args below meth c H locs cells slots Q g) : W p l e R s m args below meth c H locs cells slots Q g := by
  intro T hT X
  have hs := X.same
  have h1 : ww_t T.heap = ww_t s.heap + ((T.heap.toList.drop s.heap.size).map (fun c : Cell => c.slots.size)).sum := ww_sum (T := T.setVm s.vm) hs
  have h2 : T.heap.size ≤ s.heap.size + cells := hs.2.2.1
  have h3 : ((T.heap.toList.drop s.heap.size).map (fun c : Cell => c.slots.size)).sum ≤ slots := hs.2.2.2.2.1
  exact k (by rw [← hT]; exact h2) (by rw [← hT]; omega) T hT X
theorem ww_tight {g : JFrame} {k n : Nat} (h1 : H.size ≤ s.heap.size + k) (h2 : ww_t H ≤ ww_t s.heap + n) (kk : W p l e R s m args below meth c H locs k n Q g) : W p l e R s m args below meth c H locs cells slots Q g := by
  intro T hT X
  have hs := X.same
  have g1 : ww_t T.heap = ww_t s.heap + ((T.heap.toList.drop s.heap.size).map (fun c : Cell => c.slots.size)).sum := ww_sum (T := T.setVm s.vm) hs
  obtain ⟨a1, a2, a3, a4, a5, a6⟩ := hs
  refine kk T hT { X with same := ⟨a1, a2, ?_, a4, ?_, a6⟩ }
  · show T.heap.size ≤ _
    rw [hT]; exact h1
  · show ((T.heap.toList.drop s.heap.size).map (fun c : Cell => c.slots.size)).sum ≤ n
    rw [hT] at g1 ⊢
    omega
end WW1
/-! rows: an instruction each -/
section WW2
variable {p : Program} {l : Launch} {e : Env} {R : Room} {s : State} {m : MethodId} {args : Array Value} {below : List Frame} {meth : Method} {c : Code} {H : Heap} {locs : List Loc} {cells slots : Nat} {Q : State → Prop}
variable {cc : ByteArray} {pc : Nat} {ls : Array Slot} {rest : List Value} {D : va_G} {cl : List vw_C} {b0 : Nat} {a : Nat} {tys : List (ClassId × FieldType)} {w : ww_W} {H0 : Heap}
theorem ww_recv {ci : Nat} {q : vw_C} {fs : List Value} (hK : va_K D cl tys s) (hI : ww_I D cl b0 w H0 H locs) (hc : cl[ci]? = some q) (he : w a = some (.inr (ci, fs))) : ∃ cell : Cell, H[a]? = some cell ∧ cell.vm.isStatics = false ∧ s.vm.findClass q.1 = some cell.cls :=
  va_recv (q0 := 0) hK (ww_one (hI.1 _ _ he).1) hc rfl
theorem ww_get (hexec : p.tables.exec = Jvm.exec) (hb : c.code = cc) {own ref C : String} {T : u_T} {N ci index : Nat} {Ts : List Cond} (hts : ∀ w ∈ Ts, w.before args s = true) (hin : ∀ w ∈ u_ws C T N, w ∈ Ts) (hown : s.vm.findClass own = some m.cls) (hK : va_K D cl tys s) (hI : ww_I D cl b0 w H0 H locs) {fs : List Value} (he : w a = some (.inr (ci, fs))) (hc : cl[ci]? = some (C, T, N)) (k : Nat) (hk : k < N) (hlink : (Cond.fieldLink own index ref (T k).2.1 (T k).2.2.1).before args s = true) (hsame : ∀ x, s.fieldFound? (T k).1 (T k).2.1 (T k).2.2.1 = some x → s.fieldFound? ref (T k).2.1 (T k).2.2.1 = some x) {v : Value} (hv : fs[k]? = some v) (hdg : decode cc pc = .ok (.getfield index, 3))
    (kk : W p l e R s m args below meth c H locs cells slots Q (F0 m (pc + 3) ls (v :: rest))) : W p l e R s m args below meth c H locs cells slots Q (F0 m pc ls (.ref a :: rest)) :=
  va_get hexec hb hts hin hown hK (ww_one (hI.1 _ _ he).1) 0 rfl hc k hk hlink hsame hv hdg kk
theorem ww_getN (hexec : p.tables.exec = Jvm.exec) (hb : c.code = cc) {own ref C host : String} {T : u_T} {N ci index : Nat} {Ts : List Cond} (hts : ∀ w ∈ Ts, w.before args s = true) (hin : ∀ w ∈ u_ws C T N, w ∈ Ts) (hown : s.vm.findClass own = some m.cls) (hK : va_K D cl tys s) (hI : ww_I D cl b0 w H0 H locs) {fs : List Value} (he : w a = some (.inr (ci, fs))) (hc : cl[ci]? = some (C, T, N)) (k : Nat) (hk : k < N) (hlink : (Cond.fieldLinkNest own index ref (T k).2.1 (T k).2.2.1 host).before args s = true) (hsame : ∀ x, s.fieldFound? (T k).1 (T k).2.1 (T k).2.2.1 = some x → s.fieldFound? ref (T k).2.1 (T k).2.2.1 = some x) {v : Value} (hv : fs[k]? = some v) (hdg : decode cc pc = .ok (.getfield index, 3))
    (kk : W p l e R s m args below meth c H locs cells slots Q (F0 m (pc + 3) ls (v :: rest))) : W p l e R s m args below meth c H locs cells slots Q (F0 m pc ls (.ref a :: rest)) :=
  va_getN hexec hb hts hin hown hK (ww_one (hI.1 _ _ he).1) 0 rfl hc k hk hlink hsame hv hdg kk
theorem ww_put (hexec : p.tables.exec = Jvm.exec) (hb : c.code = cc) {own ref C : String} {T : u_T} {N ci index : Nat} {Ts : List Cond} (hts : ∀ w ∈ Ts, w.before args s = true) (hin : ∀ w ∈ u_ws C T N, w ∈ Ts) (ty0 : Nat → FieldType) (hty : ∀ k, k < N → parseFieldDescriptor (T k).2.2.1 = some (ty0 k)) (hnm : ∀ a, a < N → ∀ b, b < N → a ≠ b → (T a).2.1 ≠ (T b).2.1) (hown : s.vm.findClass own = some m.cls) (hK : va_K D cl tys s) (hI : ww_I D cl b0 w H0 H locs) {fs : List Value} (he : w a = some (.inr (ci, fs))) (hc : cl[ci]? = some (C, T, N)) (k : Nat) (hk : k < N) (hlink : (Cond.fieldLink own index ref (T k).2.1 (T k).2.2.1).before args s = true) (hsame : ∀ x, s.fieldFound? (T k).1 (T k).2.1 (T k).2.2.1 = some x → s.fieldFound? ref (T k).2.1 (T k).2.2.1 = some x) (hfin : (T k).2.2.2 = false) {ty : FieldType} {v : Value} (hd : parseFieldDescriptor (T k).2.2.1 = some ty) (hn : narrow ty v = v) (hfit : fits ty v = true) (hl : k < fs.length)
    (hdg : decode cc pc = .ok (.putfield index, 3)) (kk : ∀ (H1 : Heap) (locs1 : List Loc), ww_I D cl b0 (va_up w a (some (.inr (ci, fs.set k v)))) H0 H1 locs1 → W p l e R s m args below meth c H1 locs1 cells slots Q (F0 m (pc + 3) ls rest)) : W p l e R s m args below meth c H locs cells slots Q (F0 m pc ls (v :: .ref a :: rest)) := by
  obtain ⟨q0, h0⟩ := hI.ix he
  exact va_put hexec hb hts hin ty0 hty hnm hown hK hI.P (hI.D _) hI.2.1 q0 h0 hc k hk hlink hsame hfin hd hn hfit hl hdg (fun H1 locs1 hP _ hS => kk H1 locs1 (hI.set h0 hP hS))
theorem ww_putN (hexec : p.tables.exec = Jvm.exec) (hb : c.code = cc) {own ref C host : String} {T : u_T} {N ci index : Nat} {Ts : List Cond} (hts : ∀ w ∈ Ts, w.before args s = true) (hin : ∀ w ∈ u_ws C T N, w ∈ Ts) (ty0 : Nat → FieldType) (hty : ∀ k, k < N → parseFieldDescriptor (T k).2.2.1 = some (ty0 k)) (hnm : ∀ a, a < N → ∀ b, b < N → a ≠ b → (T a).2.1 ≠ (T b).2.1) (hown : s.vm.findClass own = some m.cls) (hK : va_K D cl tys s) (hI : ww_I D cl b0 w H0 H locs) {fs : List Value} (he : w a = some (.inr (ci, fs))) (hc : cl[ci]? = some (C, T, N)) (k : Nat) (hk : k < N) (hlink : (Cond.fieldLinkNest own index ref (T k).2.1 (T k).2.2.1 host).before args s = true) (hsame : ∀ x, s.fieldFound? (T k).1 (T k).2.1 (T k).2.2.1 = some x → s.fieldFound? ref (T k).2.1 (T k).2.2.1 = some x) (hfin : (T k).2.2.2 = false) {ty : FieldType} {v : Value} (hd : parseFieldDescriptor (T k).2.2.1 = some ty) (hn : narrow ty v = v) (hfit : fits ty v = true) (hl : k < fs.length)
    (hdg : decode cc pc = .ok (.putfield index, 3)) (kk : ∀ (H1 : Heap) (locs1 : List Loc), ww_I D cl b0 (va_up w a (some (.inr (ci, fs.set k v)))) H0 H1 locs1 → W p l e R s m args below meth c H1 locs1 cells slots Q (F0 m (pc + 3) ls rest)) : W p l e R s m args below meth c H locs cells slots Q (F0 m pc ls (v :: .ref a :: rest)) := by
  obtain ⟨q0, h0⟩ := hI.ix he
  exact va_putN hexec hb hts hin ty0 hty hnm hown hK hI.P (hI.D _) hI.2.1 q0 h0 hc k hk hlink hsame hfin hd hn hfit hl hdg (fun H1 locs1 hP _ hS => kk H1 locs1 (hI.set h0 hP hS))
theorem ww_putF (hexec : p.tables.exec = Jvm.exec) (hb : c.code = cc) {own ref C : String} {T : u_T} {N ci index : Nat} {Ts : List Cond} (hts : ∀ w ∈ Ts, w.before args s = true) (hin : ∀ w ∈ u_ws C T N, w ∈ Ts) (ty0 : Nat → FieldType) (hty : ∀ k, k < N → parseFieldDescriptor (T k).2.2.1 = some (ty0 k)) (hnm : ∀ a, a < N → ∀ b, b < N → a ≠ b → (T a).2.1 ≠ (T b).2.1) (hown : s.vm.findClass own = some m.cls) (hK : va_K D cl tys s) (hI : ww_I D cl b0 w H0 H locs) {fs : List Value} (he : w a = some (.inr (ci, fs))) (hc : cl[ci]? = some (C, T, N)) (k : Nat) (hk : k < N) (hlink : (Cond.fieldLink own index ref (T k).2.1 (T k).2.2.1).before args s = true) (hsame : ∀ x, s.fieldFound? (T k).1 (T k).2.1 (T k).2.2.1 = some x → s.fieldFound? ref (T k).2.1 (T k).2.2.1 = some x) (hfin : (T k).2.2.2 = true) (hin2 : meth.name = "<init>") (hdecl : (T k).1 = own) {ty : FieldType} {v : Value} (hd : parseFieldDescriptor (T k).2.2.1 = some ty) (hn : narrow ty v = v) (hfit : fits ty v = true) (hl : k < fs.length)
    (hdg : decode cc pc = .ok (.putfield index, 3)) (kk : ∀ (H1 : Heap) (locs1 : List Loc), ww_I D cl b0 (va_up w a (some (.inr (ci, fs.set k v)))) H0 H1 locs1 → W p l e R s m args below meth c H1 locs1 cells slots Q (F0 m (pc + 3) ls rest)) : W p l e R s m args below meth c H locs cells slots Q (F0 m pc ls (v :: .ref a :: rest)) := by
  obtain ⟨q0, h0⟩ := hI.ix he
  exact va_putF hexec hb hts hin ty0 hty hnm hown hK hI.P (hI.D _) hI.2.1 q0 h0 hc k hk hlink hsame hfin hin2 hdecl hd hn hfit hl hdg (fun H1 locs1 hP _ hS => kk H1 locs1 (hI.set h0 hP hS))
theorem ww_new (hexec : p.tables.exec = Jvm.exec) (hb : c.code = cc) {own C : String} {T : u_T} {N ci index : Nat} {Ts : List Cond} (hts : ∀ w ∈ Ts, w.before args s = true) (hin : ∀ w ∈ u_ws C T N, w ∈ Ts) (ty : Nat → FieldType) (hty : ∀ k, k < N → parseFieldDescriptor (T k).2.2.1 = some (ty k)) (hown : s.vm.findClass own = some m.cls) (hcl : (Cond.classLink own index C).before args s = true) (hinst : (Cond.instantiable C N).before args s = true) (hini : (Cond.initialized C).before args s = true)
    (hK : va_K D cl tys s) (hI : ww_I D cl b0 w H0 H locs) (hc : cl[ci]? = some (C, T, N)) {fs : List Value} (hfs : ∀ j, j < N → defaultValue (ty j) = vp_V fs j) (hcells : cells + 1 ≤ R.cells) (hslots : slots + N ≤ R.slots) (hdg : decode cc pc = .ok (.new index, 3))
    (kk : ∀ (q : Nat) (H1 : Heap), w q = none → ww_I D cl b0 (va_up w q (some (.inr (ci, fs)))) H0 H1 locs →
      W p l e R s m args below meth c H1 locs (cells + 1) (slots + N) Q (F0 m (pc + 3) ls (.ref q :: rest))) : W p l e R s m args below meth c H locs cells slots Q (F0 m pc ls rest) :=
  va_new hexec hb hts hin ty hty hown hcl hinst hini hK hI.P (hI.D _) hI.2.1 (fun q h => Nat.le_trans hI.2.2 h) hc hfs hcells hslots hdg (fun q H1 hP hD hS => kk q H1 (ww_fresh (fun _ _ he => hI.lt he) hD) (hI.push hP hD hS))
theorem ww_alen (hexec : p.tables.exec = Jvm.exec) (hb : c.code = cc) (hK : va_K D cl tys s) (hI : ww_I D cl b0 w H0 H locs) (t0 : Nat) {cA : ClassId} {x : vp_A} (ha : w a = some (.inl (cA, x))) {ty : FieldType} (ht : tys[t0]? = some (cA, ty)) {v : Int32} (hv : Int32.ofNat x.1 = v) (hdg : decode cc pc = .ok (.arraylength, 1))
    (kk : W p l e R s m args below meth c H locs cells slots Q (F0 m (pc + 1) ls (.int v :: rest))) : W p l e R s m args below meth c H locs cells slots Q (F0 m pc ls (.ref a :: rest)) :=
  va_alen hexec hb hK (ww_one (hI.1 _ _ ha).1) 0 t0 rfl ht hv hdg kk
theorem ww_iald (hexec : p.tables.exec = Jvm.exec) (hb : c.code = cc) (hK : va_K D cl tys s) (hI : ww_I D cl b0 w H0 H locs) (t0 : Nat) {cA : ClassId} {n : Nat} {f : Nat → Int32} (ha : w a = some (.inl (cA, n, .inl f))) (ht : tys[t0]? = some (cA, .int)) {i : Int32} (hin : vp_in i n) (hdg : decode cc pc = .ok (.iaload, 1))
    (kk : W p l e R s m args below meth c H locs cells slots Q (F0 m (pc + 1) ls (.int (f i.toNatClampNeg) :: rest))) : W p l e R s m args below meth c H locs cells slots Q (F0 m pc ls (.int i :: .ref a :: rest)) :=
  va_iald hexec hb hK (ww_one (hI.1 _ _ ha).1) 0 t0 rfl ht hin hdg kk
theorem ww_iast (hexec : p.tables.exec = Jvm.exec) (hb : c.code = cc) (hK : va_K D cl tys s) (hI : ww_I D cl b0 w H0 H locs) (t0 : Nat) {cA : ClassId} {n : Nat} {f : Nat → Int32} (ha : w a = some (.inl (cA, n, .inl f))) (ht : tys[t0]? = some (cA, .int)) {i : Int32} {x : Int32} (hin : vp_in i n) (hdg : decode cc pc = .ok (.iastore, 1))
    (kk : ∀ (H1 : Heap) (locs1 : List Loc), ww_I D cl b0 (va_up w a (some (.inl (cA, n, .inl (upd f i.toNatClampNeg x))))) H0 H1 locs1 → W p l e R s m args below meth c H1 locs1 cells slots Q (F0 m (pc + 1) ls rest)) : W p l e R s m args below meth c H locs cells slots Q (F0 m pc ls (.int x :: .int i :: .ref a :: rest)) := by
  obtain ⟨q0, h0⟩ := hI.ix ha
  exact va_iast hexec hb hK hI.P (hI.D _) hI.2.1 q0 t0 h0 ht hin hdg (fun H1 locs1 hP _ hS => kk H1 locs1 (hI.set h0 hP hS))
theorem ww_last (hexec : p.tables.exec = Jvm.exec) (hb : c.code = cc) (hK : va_K D cl tys s) (hI : ww_I D cl b0 w H0 H locs) (t0 : Nat) {cA : ClassId} {n : Nat} {f : Nat → Int64} (ha : w a = some (.inl (cA, n, .inr (.inl f)))) (ht : tys[t0]? = some (cA, .long)) {i : Int32} {x : Int64} (hin : vp_in i n) (hdg : decode cc pc = .ok (.lastore, 1))
    (kk : ∀ (H1 : Heap) (locs1 : List Loc), ww_I D cl b0 (va_up w a (some (.inl (cA, n, .inr (.inl (vp_updL f i.toNatClampNeg x)))))) H0 H1 locs1 → W p l e R s m args below meth c H1 locs1 cells slots Q (F0 m (pc + 1) ls rest)) : W p l e R s m args below meth c H locs cells slots Q (F0 m pc ls (.long x :: .int i :: .ref a :: rest)) := by
  obtain ⟨q0, h0⟩ := hI.ix ha
  exact va_last hexec hb hK hI.P (hI.D _) hI.2.1 q0 t0 h0 ht hin hdg (fun H1 locs1 hP _ hS => kk H1 locs1 (hI.set h0 hP hS))
theorem ww_lald (hexec : p.tables.exec = Jvm.exec) (hb : c.code = cc) (hK : va_K D cl tys s) (hI : ww_I D cl b0 w H0 H locs) (t0 : Nat) {cA : ClassId} {n : Nat} {f : Nat → Int64} (ha : w a = some (.inl (cA, n, .inr (.inl f)))) (ht : tys[t0]? = some (cA, .long)) {i : Int32} (hin : vp_in i n) (hdg : decode cc pc = .ok (.laload, 1))
    (kk : W p l e R s m args below meth c H locs cells slots Q (F0 m (pc + 1) ls (.long (f i.toNatClampNeg) :: rest))) : W p l e R s m args below meth c H locs cells slots Q (F0 m pc ls (.int i :: .ref a :: rest)) :=
  va_lald hexec hb hK (ww_one (hI.1 _ _ ha).1) 0 t0 rfl ht hin hdg kk
theorem ww_aldq (hexec : p.tables.exec = Jvm.exec) (hb : c.code = cc) (hK : va_K D cl tys s) (hI : ww_I D cl b0 w H0 H locs) (t0 : Nat) {cA : ClassId} {C : String} {n : Nat} {f : Nat → Option Nat} (ha : w a = some (.inl (cA, n, .inr (.inr (.inr (.inr f)))))) (ht : tys[t0]? = some (cA, .object C)) {i : Int32} (hin : vp_in i n) (hdg : decode cc pc = .ok (.aaload, 1))
    (kk : W p l e R s m args below meth c H locs cells slots Q (F0 m (pc + 1) ls (va_rf (f i.toNatClampNeg) :: rest))) : W p l e R s m args below meth c H locs cells slots Q (F0 m pc ls (.int i :: .ref a :: rest)) :=
  va_aldq hexec hb hK (ww_one (hI.1 _ _ ha).1) 0 t0 rfl ht hin hdg kk
theorem ww_astq (hexec : p.tables.exec = Jvm.exec) (hb : c.code = cc) (hK : va_K D cl tys s) (hI : ww_I D cl b0 w H0 H locs) (t0 : Nat) {E : String} {cA : ClassId} {n v : Nat} {f : Nat → Option Nat} (ha : w a = some (.inl (cA, n, .inr (.inr (.inr (.inr f)))))) (ht : tys[t0]? = some (cA, .object E)) (hr : va_Any E s H v) {i : Int32} (hin : vp_in i n) (hdg : decode cc pc = .ok (.aastore, 1))
    (kk : ∀ (H1 : Heap) (locs1 : List Loc), ww_I D cl b0 (va_up w a (some (.inl (cA, n, .inr (.inr (.inr (.inr (va_up f i.toNatClampNeg (some v))))))))) H0 H1 locs1 → W p l e R s m args below meth c H1 locs1 cells slots Q (F0 m (pc + 1) ls rest)) : W p l e R s m args below meth c H locs cells slots Q (F0 m pc ls (.ref v :: .int i :: .ref a :: rest)) := by
  obtain ⟨q0, h0⟩ := hI.ix ha
  exact va_astqM hexec hb hK hI.P (hI.D _) hI.2.1 q0 t0 h0 ht hr hin hdg (fun H1 locs1 hP _ hS => kk H1 locs1 (hI.set h0 hP hS))
theorem ww_astqN (hexec : p.tables.exec = Jvm.exec) (hb : c.code = cc) (hK : va_K D cl tys s) (hI : ww_I D cl b0 w H0 H locs) (t0 : Nat) {E : String} {cA : ClassId} {n : Nat} {f : Nat → Option Nat} (ha : w a = some (.inl (cA, n, .inr (.inr (.inr (.inr f)))))) (ht : tys[t0]? = some (cA, .object E)) {i : Int32} (hin : vp_in i n) (hdg : decode cc pc = .ok (.aastore, 1))
    (kk : ∀ (H1 : Heap) (locs1 : List Loc), ww_I D cl b0 (va_up w a (some (.inl (cA, n, .inr (.inr (.inr (.inr (va_up f i.toNatClampNeg none)))))))) H0 H1 locs1 → W p l e R s m args below meth c H1 locs1 cells slots Q (F0 m (pc + 1) ls rest)) : W p l e R s m args below meth c H locs cells slots Q (F0 m pc ls (.null :: .int i :: .ref a :: rest)) := by
  obtain ⟨q0, h0⟩ := hI.ix ha
  exact va_astqN hexec hb hK hI.P (hI.D _) hI.2.1 q0 t0 h0 ht hin hdg (fun H1 locs1 hP _ hS => kk H1 locs1 (hI.set h0 hP hS))
/-- the object at a, of the class ci, may lie in a row of E -/
theorem ww_any {ci : Nat} {r : vw_C} {fs : List Value} {E : String} {v : Nat} (hK : va_K D cl tys s) (hI : ww_I D cl b0 w H0 H locs) (he : w v = some (.inr (ci, fs))) (hc : cl[ci]? = some r) (hca : va_Nw (.castable r.1 E) s) : va_Any E s H v :=
  va_rAny (q0 := 0) hK (ww_one (hI.1 _ _ he).1) rfl hc (fun comp c0 h1 h2 => by
    obtain ⟨c1, t1, f1, f2, f3⟩ := Cond.castable_spec (va_Nw.use (A := #[]) rfl hca)
    cases h1.symm.trans f2
    cases h2.symm.trans f1
    exact f3)
theorem ww_newi (hexec : p.tables.exec = Jvm.exec) (hb : c.code = cc) (harr : (Cond.arrayClass (newarray.typeOf .int)).before args s = true) (hK : va_K D cl tys s) (hI : ww_I D cl b0 w H0 H locs) (t0 : Nat) {cA : ClassId} (ht : tys[t0]? = some (cA, .int))
    {n : Int32} {N : Nat} (hn : ¬ n < 0) (hN : n.toNatClampNeg = N) (hbytes : N * 4 ≤ 536870912) (hcells : cells + 1 ≤ R.cells) (hslots : slots + N ≤ R.slots) (hdg : decode cc pc = .ok (.newarray .int, 2))
    (kk : ∀ (q : Nat) (H1 : Heap), w q = none → ww_I D cl b0 (va_up w q (some (.inl (cA, N, .inl (fun _ => 0))))) H0 H1 locs →
      W p l e R s m args below meth c H1 locs (cells + 1) (slots + N) Q (F0 m (pc + 2) ls (.ref q :: rest))) : W p l e R s m args below meth c H locs cells slots Q (F0 m pc ls (.int n :: rest)) :=
  va_newa (ty := .int) (a0 := (N, .inl (fun _ => 0))) hexec hb harr rfl hK hI.P (hI.D _) hI.2.1 (fun q h => Nat.le_trans hI.2.2 h) (fun _ => rfl) hn hN hbytes hcells hslots hdg (fun q cB H1 hK2 hP hD hS => by
    have h1 : va_RA s cA .int := (hK.2 t0 _ ht).2
    have h2 : va_RA s cB .int := (hK2.2 tys.length (cB, .int) (by rw [List.getElem?_append_right (Nat.le_refl _), Nat.sub_self]; rfl)).2
    have h3 : cB = cA := Option.some.inj (Eq.trans (Eq.symm h2) h1)
    subst h3
    exact kk q H1 (ww_fresh (fun _ _ he => hI.lt he) hD) (hI.push hP hD hS))
theorem ww_newl (hexec : p.tables.exec = Jvm.exec) (hb : c.code = cc) (harr : (Cond.arrayClass (newarray.typeOf .long)).before args s = true) (hK : va_K D cl tys s) (hI : ww_I D cl b0 w H0 H locs) (t0 : Nat) {cA : ClassId} (ht : tys[t0]? = some (cA, .long))
    {n : Int32} {N : Nat} (hn : ¬ n < 0) (hN : n.toNatClampNeg = N) (hbytes : N * 8 ≤ 536870912) (hcells : cells + 1 ≤ R.cells) (hslots : slots + N ≤ R.slots) (hdg : decode cc pc = .ok (.newarray .long, 2))
    (kk : ∀ (q : Nat) (H1 : Heap), w q = none → ww_I D cl b0 (va_up w q (some (.inl (cA, N, .inr (.inl (fun _ => 0)))))) H0 H1 locs →
      W p l e R s m args below meth c H1 locs (cells + 1) (slots + N) Q (F0 m (pc + 2) ls (.ref q :: rest))) : W p l e R s m args below meth c H locs cells slots Q (F0 m pc ls (.int n :: rest)) :=
  va_newa (ty := .long) (a0 := (N, .inr (.inl (fun _ => 0)))) hexec hb harr rfl hK hI.P (hI.D _) hI.2.1 (fun q h => Nat.le_trans hI.2.2 h) (fun _ => rfl) hn hN hbytes hcells hslots hdg (fun q cB H1 hK2 hP hD hS => by
    have h1 : va_RA s cA .long := (hK.2 t0 _ ht).2
    have h2 : va_RA s cB .long := (hK2.2 tys.length (cB, .long) (by rw [List.getElem?_append_right (Nat.le_refl _), Nat.sub_self]; rfl)).2
    have h3 : cB = cA := Option.some.inj (Eq.trans (Eq.symm h2) h1)
    subst h3
    exact kk q H1 (ww_fresh (fun _ _ he => hI.lt he) hD) (hI.push hP hD hS))
theorem ww_newq (hexec : p.tables.exec = Jvm.exec) (hb : c.code = cc) {own C : String} {index : Nat} (hown : s.vm.findClass own = some m.cls) (hclink : (Cond.classLink own index C).before args s = true) (hover : va_AO C s) (hK : va_K D cl tys s) (hI : ww_I D cl b0 w H0 H locs) (t0 : Nat) {cA : ClassId} (ht : tys[t0]? = some (cA, .object C))
    {n : Int32} {N : Nat} (hn : ¬ n < 0) (hN : n.toNatClampNeg = N) (hbytes : N * 4 ≤ 536870912) (hcells : cells + 1 ≤ R.cells) (hslots : slots + N ≤ R.slots) (hdg : decode cc pc = .ok (.anewarray index, 3))
    (kk : ∀ (q : Nat) (H1 : Heap), w q = none → ww_I D cl b0 (va_up w q (some (.inl (cA, N, .inr (.inr (.inr (.inr (fun _ => none)))))))) H0 H1 locs →
      W p l e R s m args below meth c H1 locs (cells + 1) (slots + N) Q (F0 m (pc + 3) ls (.ref q :: rest))) : W p l e R s m args below meth c H locs cells slots Q (F0 m pc ls (.int n :: rest)) :=
  va_newq hexec hb hown hclink hover hK hI.P (hI.D _) hI.2.1 (fun q h => Nat.le_trans hI.2.2 h) hn hN hbytes hcells hslots hdg (fun q cB H1 hK2 hP hD hS => by
    obtain ⟨_, _, _, _, _, h1⟩ : va_RA s cA (.object C) := (hK.2 t0 _ ht).2
    obtain ⟨_, _, _, _, _, h2⟩ : va_RA s cB (.object C) := (hK2.2 tys.length (cB, .object C) (by rw [List.getElem?_append_right (Nat.le_refl _), Nat.sub_self]; rfl)).2
    have h3 : cB = cA := Option.some.inj (Eq.trans (Eq.symm h2) h1)
    subst h3
    exact kk q H1 (ww_fresh (fun _ _ he => hI.lt he) hD) (hI.push hP hD hS))
theorem ww_copyi (hexec : p.tables.exec = Jvm.exec) (hb : c.code = cc) (hml : c.maxLocals = ls.size) {own : String} {index : Nat} (hown : s.vm.findClass own = some m.cls) (hlink : (Cond.methodLink own index arraycopyName).before args s = true) (hnat : (Cond.native arraycopyName).before args s = true) (hstat : (Cond.static arraycopyName).before args s = true) (hini : (Cond.initialized "java/lang/System").before args s = true)
    (hK : va_K D cl tys s) (hI : ww_I D cl b0 w H0 H locs) (t0 : Nat) {a0 : Nat} {c0 : ClassId} {n0 n1 : Nat} {f g : Nat → Int32} (ha0 : w a0 = some (.inl (c0, n0, .inl f))) (ha1 : w a = some (.inl (c0, n1, .inl g))) (ht0 : tys[t0]? = some (c0, .int))
    {sp dp n : Int32} (h1 : ¬ sp < 0) (h2 : ¬ dp < 0) (h3 : ¬ n < 0) (h4 : sp.toNatClampNeg + n.toNatClampNeg ≤ n0) (h5 : dp.toNatClampNeg + n.toNatClampNeg ≤ n1)
    (hframes : 1 ≤ R.frames) (hlocals : (rest.map fun v => v.category).sum + (nativeFrameWords "java/lang/System" "arraycopy" 5 + 11) ≤ R.locals) (hdg : decode cc pc = .ok (.invokestatic index, 3))
    (kk : ∀ (H1 : Heap) (locs1 : List Loc), ww_I D cl b0 (va_up w a (some (.inl (c0, n1, .inl (va_cpy f g sp.toNatClampNeg dp.toNatClampNeg n.toNatClampNeg))))) H0 H1 locs1 → W p l e R s m args below meth c H1 locs1 cells slots Q (F0 m (pc + 3) ls rest)) : W p l e R s m args below meth c H locs cells slots Q (F0 m pc ls (.int n :: .int dp :: .ref a :: .int sp :: .ref a0 :: rest)) := by
  obtain ⟨q0, h00⟩ := hI.ix ha0
  obtain ⟨q1, h01⟩ := hI.ix ha1
  exact va_copyi hexec hb hml hown hlink hnat hstat hini hK hI.P (hI.D _) hI.2.1 q0 q1 t0 t0 h00 h01 ht0 ht0 rfl h1 h2 h3 h4 h5 (fun _ _ => rfl) hframes hlocals hdg (fun H1 locs1 hP _ hS => kk H1 locs1 (hI.set h01 hP hS))
end WW2
/-! contracts: the world at the start and at the end -/
def ww_A (D : va_G) (cl : List vw_C) (tys : List (ClassId × FieldType)) (b0 : Nat) (w : ww_W) (U : State) : Prop :=
  (∀ (a : Nat) (e : va_E), w a = some e → va_at D cl (a, e) U.heap ∧ b0 ≤ a) ∧ b0 ≤ U.heap.size ∧ va_K D cl tys U
/-- words that stay as the tables warm, though the callee's own list doesn't take them: nest mates, casts -/
def ww_N (nst : List Cond) (U : State) : Prop := ∀ w ∈ nst, va_Nw w U
def ww_st (nst : List Cond) : Prop := ∀ w ∈ nst, (∀ s U : State, s.vm = U.vm → va_Nw w s → va_Nw w U) ∧ ∀ s U : State, s.WarmedH U.vm → va_Nw w s → va_Nw w U
def ww_P (nst : List Cond) (D : va_G) (cl : List vw_C) (tys : List (ClassId × FieldType)) (b0 : Nat) (w : ww_W) (sz tt : Nat) (U : State) : Prop := ww_A D cl tys b0 w U ∧ U.heap.size = sz ∧ ww_t U.heap = tt ∧ ww_N nst U
/-- behind a method: the world u.1, at most u.2.1 new cells, of u.2.2 slots -/
def ww_B (D : va_G) (cl : List vw_C) (tys : List (ClassId × FieldType)) (b0 sz tt : Nat) (u : ww_W × Nat × Nat) (U : State) : Prop := ww_A D cl tys b0 u.1 U ∧ U.heap.size ≤ sz + u.2.1 ∧ ww_t U.heap ≤ tt + u.2.2
def ww_F (b0 : Nat) : Nat → Prop := fun q => b0 ≤ q
theorem ww_A.call {D : va_G} {cl : List vw_C} {tys : List (ClassId × FieldType)} {b0 : Nat} {w : ww_W} {U : State} (h : ww_A D cl tys b0 w U) (g : JFrame) (mk : MethodId) (a : Array Value) : ww_A D cl tys b0 w (U.calling g mk a) :=
  ⟨h.1, h.2.1, va_K.moved (u := U) (U := U.calling g mk a) (Vm.Alike.refl U.vm) h.2.2⟩
theorem ww_blind {nst : List Cond} (hst : ww_st nst) {D : va_G} {cl : List vw_C} {tys : List (ClassId × FieldType)} {b0 sz tt : Nat} {w : ww_W} {As : List Value} : FrameBlind (va_Pc As (ww_P nst D cl tys b0 w sz tt)) := by
  intro a U g mk q
  obtain ⟨q0, q1, q2, q3, q4⟩ := q
  exact ⟨q0, q1.call g mk a, q2, q3, fun w hw => (hst w hw).1 U (U.calling g mk a) rfl (q4 w hw)⟩
section WW3
variable {p : Program} {l : Launch} {e : Env} {R : Room} {s : State} {m : MethodId} {args : Array Value} {below : List Frame} {meth : Method} {c : Code} {H : Heap} {locs : List Loc} {cells slots : Nat} {Q : State → Prop}
variable {cc : ByteArray} {pc : Nat} {ls : Array Slot} {rest st0 : List Value} {D : va_G} {cl : List vw_C} {b0 : Nat} {tys : List (ClassId × FieldType)} {w : ww_W} {H0 : Heap} {a : Array Value} {mc ms : Nat} {b : Addr} {As : List Value}
theorem ww_here {nst : List Cond} (hst : ww_st nst) (hN : ww_N nst s) (hK : va_K D cl tys s) (hI : ww_I D cl b0 w H0 H locs) (U : State) (hU : U.heap = H) (hW : s.WarmedH U.vm) : ww_P nst D cl tys b0 w H.size (ww_t H) U :=
  ⟨⟨by rw [hU]; exact hI.1, by rw [hU]; exact Nat.le_trans hI.2.2 hI.2.1.1, va_K.moved hW.alike hK⟩, by rw [hU], by rw [hU], fun w hw => (hst w hw).2 s U hW (hN w hw)⟩
theorem ww_preS {nst : List Cond} (hst : ww_st nst) (hN : ww_N nst s) (hK : va_K D cl tys s) (hI : ww_I D cl b0 w H0 H locs) : PreS s H (va_Pc As (ww_P nst D cl tys b0 w H.size (ww_t H))) As :=
  ⟨ww_blind hst, fun U hU hW => ⟨rfl, ww_here hst hN hK hI U hU hW⟩⟩
theorem ww_preV {nst : List Cond} (hst : ww_st nst) (hN : ww_N nst s) {ci : Nat} {q : vw_C} {fs : List Value} (hK : va_K D cl tys s) (hI : ww_I D cl b0 w H0 H locs) (hc : cl[ci]? = some q) (he : w b = some (.inr (ci, fs))) : PreV s H q.1 b (va_Pc (.ref b :: As) (ww_P nst D cl tys b0 w H.size (ww_t H))) As :=
  ⟨ww_blind hst, ww_recv hK hI hc he, fun U hU hW => ⟨rfl, ww_here hst hN hK hI U hU hW⟩⟩
theorem ww_back {u : ww_W × Nat × Nat} {t : State} {H1 : Heap} {locs1 : List Loc} (hI : ww_I D cl b0 w H0 H locs) (ht : t.heap = H1) (hB : ww_B D cl tys b0 H.size (ww_t H) u t) (hS : va_S (fun q => b0 ≤ q) H0 H1 locs1) : ww_I D cl b0 u.1 H0 H1 locs1 := by
  subst ht
  exact ⟨hB.1.1, hS, hI.2.2⟩
theorem ww_calli {post : Int32 → ww_W × Nat × Nat → Prop} (hI : ww_I D cl b0 w H0 H locs) (hr : va_Run p l e R s m args below meth c H locs cells slots mc ms (F0 m pc ls st0) rest (va_Qi post (ww_B D cl tys b0 H.size (ww_t H)) (ww_F b0) a) (ww_F b0))
    (kk : ∀ (r : Int32) (u : ww_W × Nat × Nat) (H1 : Heap) (locs1 : List Loc), post r u → H1.size ≤ H.size + u.2.1 → ww_t H1 ≤ ww_t H + u.2.2 → ww_I D cl b0 u.1 H0 H1 locs1 → W p l e R s m args below meth c H1 locs1 (cells + mc) (slots + ms) Q (F0 m (pc + 3) ls (.int r :: rest))) : W p l e R s m args below meth c H locs cells slots Q (F0 m pc ls st0) :=
  va_calli hr hI.2.1 (fun _ _ h => h) (fun _ h => h) (fun r u t H1 locs1 ht _ hp hB _ _ hS => kk r u H1 locs1 hp (by rw [← ht]; exact hB.2.1) (by rw [← ht]; exact hB.2.2) (ww_back hI ht hB hS))
theorem ww_callv {post : ww_W × Nat × Nat → Prop} (hI : ww_I D cl b0 w H0 H locs) (hr : va_Run p l e R s m args below meth c H locs cells slots mc ms (F0 m pc ls st0) rest (va_Qv post (ww_B D cl tys b0 H.size (ww_t H)) (ww_F b0) a) (ww_F b0))
    (kk : ∀ (u : ww_W × Nat × Nat) (H1 : Heap) (locs1 : List Loc), post u → H1.size ≤ H.size + u.2.1 → ww_t H1 ≤ ww_t H + u.2.2 → ww_I D cl b0 u.1 H0 H1 locs1 → W p l e R s m args below meth c H1 locs1 (cells + mc) (slots + ms) Q (F0 m (pc + 3) ls rest)) : W p l e R s m args below meth c H locs cells slots Q (F0 m pc ls st0) :=
  va_callv hr hI.2.1 (fun _ _ h => h) (fun _ h => h) (fun u t H1 locs1 ht _ hp hB _ _ hS => kk u H1 locs1 hp (by rw [← ht]; exact hB.2.1) (by rw [← ht]; exact hB.2.2) (ww_back hI ht hB hS))
theorem ww_callq {post : Option Nat → ww_W × Nat × Nat → Prop} (hI : ww_I D cl b0 w H0 H locs) (hr : va_Run p l e R s m args below meth c H locs cells slots mc ms (F0 m pc ls st0) rest (va_Qq post (ww_B D cl tys b0 H.size (ww_t H)) (ww_F b0) a) (ww_F b0))
    (kk : ∀ (r : Option Nat) (u : ww_W × Nat × Nat) (H1 : Heap) (locs1 : List Loc), post r u → H1.size ≤ H.size + u.2.1 → ww_t H1 ≤ ww_t H + u.2.2 → ww_I D cl b0 u.1 H0 H1 locs1 → W p l e R s m args below meth c H1 locs1 (cells + mc) (slots + ms) Q (F0 m (pc + 3) ls (va_rf r :: rest))) : W p l e R s m args below meth c H locs cells slots Q (F0 m pc ls st0) :=
  va_callq hr hI.2.1 (fun _ _ h => h) (fun _ h => h) (fun r u t H1 locs1 ht _ hp hB _ _ hS => kk r u H1 locs1 hp (by rw [← ht]; exact hB.2.1) (by rw [← ht]; exact hB.2.2) (ww_back hI ht hB hS))
end WW3
section WW4
variable {p : Program} {l : Launch} {e : Env} {R : Room} {s : State} {m : MethodId} {args : Array Value} {below : List Frame} {meth : Method} {c : Code} {H : Heap} {locs : List Loc} {cells slots : Nat}
variable {cc : ByteArray} {pc : Nat} {ls : Array Slot} {D : va_G} {cl : List vw_C} {b0 : Nat} {tys : List (ClassId × FieldType)} {w : ww_W} {mc ms : Nat}
theorem ww_end (hK : va_K D cl tys s) (hI : ww_I D cl b0 w s.heap H locs) (k1 : H.size ≤ s.heap.size + cells) (k2 : ww_t H ≤ ww_t s.heap + slots) {t : State} (ht : t.heap = H) (hW : s.WarmedH t.vm) : ww_B D cl tys b0 s.heap.size (ww_t s.heap) (w, cells, slots) t :=
  ⟨⟨by rw [ht]; exact hI.1, by rw [ht]; exact Nat.le_trans hI.2.2 hI.2.1.1, va_K.moved hW.alike hK⟩, by rw [ht]; exact k1, by rw [ht]; exact k2⟩
theorem ww_reti {post : Int32 → ww_W × Nat × Nat → Prop} (hexec : p.tables.exec = Jvm.exec) (hb : c.code = cc) (hr : meth.sig.returnType = some .int) (hlocks : meth.locks = false) (hK : va_K D cl tys s) (hI : ww_I D cl b0 w s.heap H locs) {v : Int32} (hp : post v (w, cells, slots)) (h1 : cells ≤ mc) (h2 : slots ≤ ms) (hdg : decode cc pc = .ok (.ireturn, 1)) :
    W p l e R s m args below meth c H locs cells slots (MQ below (va_Qi post (ww_B D cl tys b0 s.heap.size (ww_t s.heap)) (ww_F b0)) args s mc ms (ww_F b0)) (F0 m pc ls [.int v]) := by
  refine ww_know fun k1 k2 => ?_
  refine W.widen h1 h2 ?_
  exact W.iret hexec hb hr (fun t ht hW => ⟨⟨v, (w, cells, slots), rfl, hp, ww_end hK hI k1 k2 ht hW⟩, hI.2.1.F ht⟩) hI.2.1.2.2 hdg hlocks
theorem ww_retz {post : Int32 → ww_W × Nat × Nat → Prop} (hexec : p.tables.exec = Jvm.exec) (hb : c.code = cc) (hr : meth.sig.returnType = some .boolean) (hlocks : meth.locks = false) (hK : va_K D cl tys s) (hI : ww_I D cl b0 w s.heap H locs) {v : Int32} (hn : narrow .boolean (.int v) = .int v) (hp : post v (w, cells, slots)) (h1 : cells ≤ mc) (h2 : slots ≤ ms) (hdg : decode cc pc = .ok (.ireturn, 1)) :
    W p l e R s m args below meth c H locs cells slots (MQ below (va_Qi post (ww_B D cl tys b0 s.heap.size (ww_t s.heap)) (ww_F b0)) args s mc ms (ww_F b0)) (F0 m pc ls [.int v]) := by
  refine ww_know fun k1 k2 => ?_
  refine W.widen h1 h2 ?_
  exact W.zret hexec hb hr hn (fun t ht hW => ⟨⟨v, (w, cells, slots), rfl, hp, ww_end hK hI k1 k2 ht hW⟩, hI.2.1.F ht⟩) hI.2.1.2.2 hdg hlocks
theorem ww_retv {post : ww_W × Nat × Nat → Prop} (hexec : p.tables.exec = Jvm.exec) (hb : c.code = cc) (hr : meth.sig.returnType = none) (hlocks : meth.locks = false) (hK : va_K D cl tys s) (hI : ww_I D cl b0 w s.heap H locs) (hp : post (w, cells, slots)) (h1 : cells ≤ mc) (h2 : slots ≤ ms) (hdg : decode cc pc = .ok (.return_, 1)) :
    W p l e R s m args below meth c H locs cells slots (MQ below (va_Qv post (ww_B D cl tys b0 s.heap.size (ww_t s.heap)) (ww_F b0)) args s mc ms (ww_F b0)) (F0 m pc ls []) := by
  refine ww_know fun k1 k2 => ?_
  refine W.widen h1 h2 ?_
  exact W.vret hexec hb hr (fun t ht hW => ⟨⟨(w, cells, slots), rfl, hp, ww_end hK hI k1 k2 ht hW⟩, hI.2.1.F ht⟩) hI.2.1.2.2 hdg hlocks
theorem ww_retq {post : Option Nat → ww_W × Nat × Nat → Prop} {rt : FieldType} (hexec : p.tables.exec = Jvm.exec) (hb : c.code = cc) (hr : meth.sig.returnType = some rt) (hrt : (∃ n, rt = .object n) ∨ ∃ t, rt = .array t) (hlocks : meth.locks = false) (hK : va_K D cl tys s) (hI : ww_I D cl b0 w s.heap H locs) {r : Option Nat} {v : Value} (hv : v = va_rf r) (hp : post r (w, cells, slots)) (h1 : cells ≤ mc) (h2 : slots ≤ ms) (hdg : decode cc pc = .ok (.areturn, 1)) :
    W p l e R s m args below meth c H locs cells slots (MQ below (va_Qq post (ww_B D cl tys b0 s.heap.size (ww_t s.heap)) (ww_F b0)) args s mc ms (ww_F b0)) (F0 m pc ls [v]) := by
  subst hv
  refine ww_know fun k1 k2 => ?_
  refine W.widen h1 h2 ?_
  exact W.aret hexec hb hr hrt (va_rf_or r) (fun t ht hW => ⟨⟨r, (w, cells, slots), rfl, hp, ww_end hK hI k1 k2 ht hW⟩, hI.2.1.F ht⟩) hI.2.1.2.2 hdg hlocks
end WW4
/-- a contract out of a walk of the body -/
theorem ww_met {nst : List Cond} {l : Launch} {y : MethodName} {cc : ByteArray} {maxL : Nat} {ret : Option FieldType} {big : List Cond} {rm : Room} {As : List Value} {Qc : Array Value → State → Outcome → State → Prop} {mc ms : Nat} {D : va_G} {cl : List vw_C} {tys : List (ClassId × FieldType)} {b0 sz tt : Nat} {w : ww_W}
    (hy : plainFor y = true) (hL : (lg_sl As).length ≤ maxL)
    (body : ∀ (p : Program) (e : Env) (s : State) (m : MethodId) (below : List Frame) (meth : Method) (c : Code), p.tables.exec = Jvm.exec → c.code = cc → c.maxLocals = maxL → meth.sig.returnType = ret → (∀ w ∈ big, w.before As.toArray s = true) → s.vm.findClass y.cls = some m.cls → meth.locks = false → meth.name = y.name → va_K D cl tys s → ww_I D cl b0 w s.heap s.heap [] → s.heap.size = sz → ww_t s.heap = tt → ww_N nst s →
      ∀ ls : Array Slot, lv_has ls maxL (lv_args 0 As) → W p l e rm s m As.toArray below meth c s.heap [] 0 0 (MQ below Qc As.toArray s mc ms (ww_F b0)) (F0 m 0 ls [])) :
    Met l y (.code y cc maxL ret :: big) rm (va_Pc As (ww_P nst D cl tys b0 w sz tt)) Qc mc ms (ww_F b0) := by
  refine va_MetF (cc := cc) (maxL := maxL) (ret := ret) hy rfl ?_
  intro p e s m args below meth c s₁ B hml hv
  obtain ⟨rfl, ⟨hA1, hA2, hK⟩, hsz, htt, hN⟩ := hv
  have hts := atoms_spec (ws := .code y cc maxL ret :: big) B.pre
  have hown : s.vm.findClass y.cls = some m.cls := findClass_of_methodNamed B.named
  have hl := lv_entry As (n := maxL) hL
  rw [lg_entry_eq]
  exact body p e s m below meth c B.exec B.bytes hml B.returns (fun w h => hts w (List.mem_cons_of_mem _ h)) hown B.notSynchronized (name_of_methodNamed B.named B.method).1 hK ⟨hA1, va_S.rf, hA2⟩ hsz htt hN _ hl
end
section
/-! RUNS: what a method does, said once over worlds, without the machine. zR T: the least predicate closed under the table's steps (T: method number, pc: the step). zR's meaning on the machine is zM; each step is shown sound once (zS). -/
abbrev zV : Type := List (Option Value)
abbrev zQ : Type := (Option Value ⊕ Nat) → ww_W → Nat → Nat → Prop
/-- d levels of calls, K cells and N slots left; the method, pc, locals, stack; the world; k cells and n slots taken so far; what must hold at the end -/
abbrev zP : Type := Nat → Nat → Nat → Nat → Nat → zV → List Value → ww_W → Nat → Nat → zQ → Prop
def zR (T : Nat → Nat → Option (zP → zP)) : zP := fun d K N μ pc L st w k n Q =>
  ∀ P : zP, (∀ (d K N μ pc : Nat) (L : zV) (st : List Value) (w : ww_W) (k n : Nat) (Q : zQ) (tr : zP → zP), T μ pc = some tr → tr P d K N μ pc L st w k n Q → P d K N μ pc L st w k n Q) → P d K N μ pc L st w k n Q
def zMono (tr : zP → zP) : Prop := ∀ P P' : zP, (∀ (d K N μ pc : Nat) (L : zV) (st : List Value) (w : ww_W) (k n : Nat) (Q : zQ), P d K N μ pc L st w k n Q → P' d K N μ pc L st w k n Q) →
  ∀ (d K N μ pc : Nat) (L : zV) (st : List Value) (w : ww_W) (k n : Nat) (Q : zQ), tr P d K N μ pc L st w k n Q → tr P' d K N μ pc L st w k n Q
theorem zR.go {T : Nat → Nat → Option (zP → zP)} (hm : ∀ (μ pc : Nat) (tr : zP → zP), T μ pc = some tr → zMono tr) {d K N μ pc : Nat} {L : zV} {st : List Value} {w : ww_W} {k n : Nat} {Q : zQ} {tr : zP → zP} (h : T μ pc = some tr) (h2 : tr (zR T) d K N μ pc L st w k n Q) : zR T d K N μ pc L st w k n Q :=
  fun P hP => hP d K N μ pc L st w k n Q tr h (hm μ pc tr h (zR T) P (fun _ _ _ _ _ _ _ _ _ _ _ hx => hx P hP) d K N μ pc L st w k n Q h2)
/-! locals by place; a store of one word, of two -/
def zcl (o : Option Value) : Option Value := match o with
  | some u => if u.category = 2 then none else some u
  | none => none
def zs1 : zV → Nat → Value → zV
  | [], _, _ => []
  | _ :: L, 0, v => some v :: L
  | o :: L, i + 1, v => (if i = 0 then zcl o else o) :: zs1 L i v
def zs2 : zV → Nat → Value → zV
  | [], _, _ => []
  | _ :: L, 0, v => some v :: (match L with
    | [] => []
    | _ :: L' => none :: L')
  | o :: L, i + 1, v => (if i = 0 then zcl o else o) :: zs2 L i v
def zH (ls : Array Slot) (nL : Nat) (L : zV) : Prop := L.length = nL ∧ ∃ lv : List (Nat × Value), lv_has ls nL lv ∧ ∀ (i : Nat) (v : Value), L[i]? = some (some v) → (i, v) ∈ lv
theorem zH.at {ls : Array Slot} {nL : Nat} {L : zV} (h : zH ls nL L) {i : Nat} {v : Value} (hi : L[i]? = some (some v)) : ls[i]? = some (.val v) := by
  obtain ⟨-, lv, h1, h2⟩ := h
  exact h1.2.2 (i, v) (h2 i v hi)
theorem zs1_len : ∀ (L : zV) (i : Nat) (v : Value), (zs1 L i v).length = L.length
  | [], _, _ => rfl
  | _ :: _, 0, _ => rfl
  | _ :: L, i + 1, v => congrArg Nat.succ (zs1_len L i v)
theorem zs2_len : ∀ (L : zV) (i : Nat) (v : Value), (zs2 L i v).length = L.length
  | [], _, _ => rfl
  | [_], 0, _ => rfl
  | _ :: _ :: _, 0, _ => rfl
  | _ :: L, i + 1, v => congrArg Nat.succ (zs2_len L i v)
theorem zcl_some {o : Option Value} {u : Value} (h : zcl o = some u) : o = some u ∧ u.category ≠ 2 := by
  cases o with
  | none => cases h
  | some x =>
    unfold zcl at h
    by_cases hx : x.category = 2
    · simp only [hx, if_true] at h; cases h
    · simp only [hx, if_false] at h
      cases h
      exact ⟨rfl, hx⟩
theorem zs1_at : ∀ (L : zV) (i : Nat) (v : Value) (j : Nat) (u : Value), (zs1 L i v)[j]? = some (some u) → (j = i ∧ u = v) ∨ (j ≠ i ∧ L[j]? = some (some u) ∧ ¬ (j + 1 = i ∧ u.category = 2))
  | [], i, v, j, u, h => by simp [zs1] at h
  | o :: L, 0, v, j, u, h => by
    cases j with
    | zero => simp [zs1] at h; exact Or.inl ⟨rfl, h.symm⟩
    | succ j => simp [zs1] at h; exact Or.inr ⟨by omega, by simpa using h, by omega⟩
  | o :: L, i + 1, v, j, u, h => by
    cases j with
    | zero =>
      refine Or.inr ⟨by omega, ?_⟩
      by_cases hi : i = 0
      · subst hi
        simp only [zs1, if_true, List.getElem?_cons_zero, Option.some.injEq] at h
        obtain ⟨h1, h2⟩ := zcl_some h
        exact ⟨by simp [h1], fun q => h2 q.2⟩
      · simp only [zs1, hi, if_false, List.getElem?_cons_zero, Option.some.injEq] at h
        exact ⟨by simp [h], fun q => by omega⟩
    | succ j =>
      simp only [zs1, List.getElem?_cons_succ] at h
      rcases zs1_at L i v j u h with ⟨h1, h2⟩ | ⟨h1, h2, h3⟩
      · exact Or.inl ⟨by omega, h2⟩
      · exact Or.inr ⟨by omega, by simpa using h2, fun q => h3 ⟨by omega, q.2⟩⟩
theorem zs2_at : ∀ (L : zV) (i : Nat) (v : Value) (j : Nat) (u : Value), (zs2 L i v)[j]? = some (some u) → (j = i ∧ u = v) ∨ (j ≠ i ∧ j ≠ i + 1 ∧ L[j]? = some (some u) ∧ ¬ (j + 1 = i ∧ u.category = 2))
  | [], i, v, j, u, h => by simp [zs2] at h
  | [o], 0, v, j, u, h => by
    cases j with
    | zero => simp [zs2] at h; exact Or.inl ⟨rfl, h.symm⟩
    | succ j => simp [zs2] at h
  | o :: o2 :: L, 0, v, j, u, h => by
    cases j with
    | zero => simp [zs2] at h; exact Or.inl ⟨rfl, h.symm⟩
    | succ j =>
      cases j with
      | zero => simp [zs2] at h
      | succ j => simp [zs2] at h; exact Or.inr ⟨by omega, by omega, by simpa using h, by omega⟩
  | o :: L, i + 1, v, j, u, h => by
    cases j with
    | zero =>
      refine Or.inr ⟨by omega, by omega, ?_⟩
      by_cases hi : i = 0
      · subst hi
        simp only [zs2, if_true, List.getElem?_cons_zero, Option.some.injEq] at h
        obtain ⟨h1, h2⟩ := zcl_some h
        exact ⟨by simp [h1], fun q => h2 q.2⟩
      · simp only [zs2, hi, if_false, List.getElem?_cons_zero, Option.some.injEq] at h
        exact ⟨by simp [h], fun q => by omega⟩
    | succ j =>
      simp only [zs2, List.getElem?_cons_succ] at h
      rcases zs2_at L i v j u h with ⟨h1, h2⟩ | ⟨h1, h2, h3, h4⟩
      · exact Or.inl ⟨by omega, h2⟩
      · exact Or.inr ⟨by omega, by omega, by simpa using h3, fun q => h4 ⟨by omega, q.2⟩⟩
/-- behind a store of one word: the list that the kit's row asks for serves -/
theorem zH.store1 {ls : Array Slot} {nL : Nat} {L : zV} (h : zH ls nL L) (i : Nat) (v : Value) : ∃ lv : List (Nat × Value), lv_has ls nL lv ∧ ∀ ls' : Array Slot, lv_has ls' nL ((i, v) :: lv.filter (fun q => !(q.1 == i) && !(q.1 + 1 == i && q.2.category == 2))) → zH ls' nL (zs1 L i v) := by
  obtain ⟨h0, lv, h1, h2⟩ := h
  refine ⟨lv, h1, fun ls' h' => ⟨(zs1_len L i v).trans h0, _, h', fun j u hj => ?_⟩⟩
  rcases zs1_at L i v j u hj with ⟨rfl, rfl⟩ | ⟨a1, a2, a3⟩
  · exact List.mem_cons_self
  · refine List.mem_cons_of_mem _ (List.mem_filter.mpr ⟨h2 j u a2, ?_⟩)
    by_cases hj1 : j + 1 = i
    · have : u.category ≠ 2 := fun q => a3 ⟨hj1, q⟩
      simp [a1, this]
    · simp [a1, hj1]
theorem zH.store2 {ls : Array Slot} {nL : Nat} {L : zV} (h : zH ls nL L) (i : Nat) (v : Value) : ∃ lv : List (Nat × Value), lv_has ls nL lv ∧ ∀ ls' : Array Slot, lv_has ls' nL ((i, v) :: lv.filter (fun q => !(q.1 == i) && (!(q.1 == i + 1) && !(q.1 + 1 == i && q.2.category == 2)))) → zH ls' nL (zs2 L i v) := by
  obtain ⟨h0, lv, h1, h2⟩ := h
  refine ⟨lv, h1, fun ls' h' => ⟨(zs2_len L i v).trans h0, _, h', fun j u hj => ?_⟩⟩
  rcases zs2_at L i v j u hj with ⟨rfl, rfl⟩ | ⟨a1, a2, a3, a4⟩
  · exact List.mem_cons_self
  · refine List.mem_cons_of_mem _ (List.mem_filter.mpr ⟨h2 j u a3, ?_⟩)
    by_cases hj1 : j + 1 = i
    · have : u.category ≠ 2 := fun q => a4 ⟨hj1, q⟩
      simp [a1, a2, this]
    · simp [a1, a2, hj1]
/-! the machine behind it -/
abbrev zMt : Type := Nat → MethodName × ByteArray × Nat × Option FieldType
def zC (mt : zMt) (big nst : List Cond) (D : va_G) (cl : List vw_C) (tys : List (ClassId × FieldType)) (d K N μ : Nat) (p : Program) (R : Room) (s : State) (m : MethodId) (args : Array Value) (meth : Method) (c : Code) : Prop :=
  p.tables.exec = Jvm.exec ∧ c.code = (mt μ).2.1 ∧ c.maxLocals = (mt μ).2.2.1 ∧ meth.sig.returnType = (mt μ).2.2.2 ∧ (∀ w ∈ big, w.before args s = true) ∧ s.vm.findClass (mt μ).1.cls = some m.cls ∧ meth.locks = false ∧ meth.name = (mt μ).1.name ∧ va_K D cl tys s ∧ d ≤ R.frames ∧ 64 * d ≤ R.locals ∧ K ≤ R.cells ∧ N ≤ R.slots ∧ ww_N nst s
/-- behind a method: it returned, or threw the object at a; the world, what was taken; the frame -/
def zO (D : va_G) (cl : List vw_C) (tys : List (ClassId × FieldType)) (b0 : Nat) (Q : zQ) (st : State) (oc : Outcome) (t : State) : Prop :=
  (∃ (res : Option Value ⊕ Nat) (u : ww_W × Nat × Nat), ((∃ v : Option Value, res = .inl v ∧ oc = .returned v) ∨ (∃ a : Nat, res = .inr a ∧ oc = .threw a)) ∧ Q res u.1 u.2.1 u.2.2 ∧ ww_B D cl tys b0 st.heap.size (ww_t st.heap) u t) ∧ va_F (ww_F b0) st t
def zMQ (D : va_G) (cl : List vw_C) (tys : List (ClassId × FieldType)) (b0 : Nat) (below : List Frame) (Q : zQ) (s : State) (mc ms : Nat) : State → Prop := fun t =>
  ∃ o : Outcome, t.status = .running ∧ Ended t below o ∧ zO D cl tys b0 Q s o t ∧ ∃ Ls : List Loc, (s.WarmedH t.vm ∧ s.sameButNew ({ t with vm := s.vm } : State) Ls mc ms) ∧ ∀ q ∈ Ls, b0 ≤ q.base
theorem W_mono {p : Program} {l : Launch} {e : Env} {R : Room} {s : State} {m : MethodId} {args : Array Value} {below : List Frame} {meth : Method} {c : Code} {H : Heap} {locs : List Loc} {cells slots : Nat} {Q Q' : State → Prop} {g : JFrame} (h : W p l e R s m args below meth c H locs cells slots Q g) (hq : ∀ t, Q t → Q' t) : W p l e R s m args below meth c H locs cells slots Q' g := by
  intro T hT X
  obtain ⟨t, a, b⟩ := h T hT X
  exact ⟨t, a, hq t b⟩
def zM (l : Launch) (mt : zMt) (big nst : List Cond) (D : va_G) (cl : List vw_C) (tys : List (ClassId × FieldType)) (b0 : Nat) : zP := fun d K N μ pc L st w k n Q =>
  ∀ (p : Program) (e : Env) (R : Room) (s : State) (m : MethodId) (args : Array Value) (below : List Frame) (meth : Method) (c : Code), zC mt big nst D cl tys d K N μ p R s m args meth c →
    ∀ (H : Heap) (locs : List Loc) (ls : Array Slot), ww_I D cl b0 w s.heap H locs → zH ls (mt μ).2.2.1 L → W p l e R s m args below meth c H locs k n (zMQ D cl tys b0 below Q s K N) (F0 m pc ls st)
def zS (l : Launch) (mt : zMt) (big nst : List Cond) (D : va_G) (cl : List vw_C) (tys : List (ClassId × FieldType)) (b0 : Nat) (μ pc : Nat) (tr : zP → zP) : Prop :=
  ∀ (d K N : Nat) (L : zV) (st : List Value) (w : ww_W) (k n : Nat) (Q : zQ), tr (zM l mt big nst D cl tys b0) d K N μ pc L st w k n Q → zM l mt big nst D cl tys b0 d K N μ pc L st w k n Q
theorem zR.sound {T : Nat → Nat → Option (zP → zP)} {l : Launch} {mt : zMt} {big nst : List Cond} {D : va_G} {cl : List vw_C} {tys : List (ClassId × FieldType)} {b0 : Nat} (hS : ∀ (μ pc : Nat) (tr : zP → zP), T μ pc = some tr → zS l mt big nst D cl tys b0 μ pc tr)
    {d K N μ pc : Nat} {L : zV} {st : List Value} {w : ww_W} {k n : Nat} {Q : zQ} (h : zR T d K N μ pc L st w k n Q) : zM l mt big nst D cl tys b0 d K N μ pc L st w k n Q :=
  h (zM l mt big nst D cl tys b0) (fun d K N μ pc L st w k n Q tr ht hx => hS μ pc tr ht d K N L st w k n Q hx)
/-! instructions that leave the world alone: a function of locals and stack -/
def zi (g : zV → List Value → Option (zV × List Value)) (len : Nat) : zP → zP := fun P d K N μ pc L st w k n Q => ∃ (L' : zV) (st' : List Value), g L st = some (L', st') ∧ P d K N μ (pc + len) L' st' w k n Q
theorem zi_mono (g : zV → List Value → Option (zV × List Value)) (len : Nat) : zMono (zi g len) := fun _ _ h _ _ _ _ _ _ _ _ _ _ _ ⟨L', st', h1, h2⟩ => ⟨L', st', h1, h _ _ _ _ _ _ _ _ _ _ _ h2⟩
def zg (big : List Cond) (own : String) (cc : ByteArray) (nL pc len : Nat) (g : zV → List Value → Option (zV × List Value)) : Prop :=
  ∀ (p : Program) (l : Launch) (e : Env) (R : Room) (s : State) (m : MethodId) (args : Array Value) (below : List Frame) (meth : Method) (c : Code) (H : Heap) (locs : List Loc) (k n : Nat) (Qf : State → Prop) (ls : Array Slot) (L : zV) (st : List Value) (L' : zV) (st' : List Value),
    p.tables.exec = Jvm.exec → c.code = cc → (∀ w ∈ big, w.before args s = true) → s.vm.findClass own = some m.cls → zH ls nL L → g L st = some (L', st') →
    (∀ ls' : Array Slot, zH ls' nL L' → W p l e R s m args below meth c H locs k n Qf (F0 m (pc + len) ls' st')) → W p l e R s m args below meth c H locs k n Qf (F0 m pc ls st)
theorem zi_ok {l : Launch} {mt : zMt} {big nst : List Cond} {D : va_G} {cl : List vw_C} {tys : List (ClassId × FieldType)} {b0 μ pc len : Nat} {g : zV → List Value → Option (zV × List Value)} (h : zg big (mt μ).1.cls (mt μ).2.1 (mt μ).2.2.1 pc len g) : zS l mt big nst D cl tys b0 μ pc (zi g len) := by
  intro d K N L st w k n Q hx p e R s m args below meth c hC H locs ls hI hL
  obtain ⟨L', st', hg, hk⟩ := hx
  exact h p l e R s m args below meth c H locs k n _ ls L st L' st' hC.1 hC.2.1 hC.2.2.2.2.1 hC.2.2.2.2.2.1 hL hg (fun ls' hL' => hk p e R s m args below meth c hC H locs ls' hI hL')
section ZG
variable {big : List Cond} {own : String} {cc : ByteArray} {nL pc : Nat}
def gC (v : Value) : zV → List Value → Option (zV × List Value) := fun L st => some (L, v :: st)
theorem zg_iconst {n : Int} {v : Int32} (hd : decode cc pc = .ok (.iconst n, 1)) (hv : Int32.ofInt n = v) : zg big own cc nL pc 1 (gC (.int v)) := by
  intro p l e R s m args below meth c H locs k n Qf ls L st L' st' hx hb hw hown hL hg kk
  cases hg
  exact lv_iconst hx hb hd hv (kk ls hL)
theorem zg_bipush {n : Int} {v : Int32} (hd : decode cc pc = .ok (.bipush n, 2)) (hv : (Int8.ofInt n).toInt32 = v) : zg big own cc nL pc 2 (gC (.int v)) := by
  intro p l e R s m args below meth c H locs k n Qf ls L st L' st' hx hb hw hown hL hg kk
  cases hg
  exact lv_bipush hx hb hd hv (kk ls hL)
theorem zg_sipush {n : Int} {v : Int32} (hd : decode cc pc = .ok (.sipush n, 3)) (hv : (Int16.ofInt n).toInt32 = v) : zg big own cc nL pc 3 (gC (.int v)) := by
  intro p l e R s m args below meth c H locs k n Qf ls L st L' st' hx hb hw hown hL hg kk
  cases hg
  exact lv_sipush hx hb hd hv (kk ls hL)
theorem zg_lconst {n : Fin 2} {v : Int64} (hd : decode cc pc = .ok (.lconst n, 1)) (hv : Int64.ofNat (n : Nat) = v) : zg big own cc nL pc 1 (gC (.long v)) := by
  intro p l e R s m args below meth c H locs k n Qf ls L st L' st' hx hb hw hown hL hg kk
  cases hg
  exact lv_lconst hx hb hd hv (kk ls hL)
theorem zg_null (hd : decode cc pc = .ok (.aconst_null, 1)) : zg big own cc nL pc 1 (gC .null) := by
  intro p l e R s m args below meth c H locs k n Qf ls L st L' st' hx hb hw hown hL hg kk
  cases hg
  exact lv_null hx hb hd (kk ls hL)
theorem zg_ldc {index : Nat} {v : Int32} (hd : decode cc pc = .ok (.ldc index, 2)) (hc : Jvm.Cond.constant own index v ∈ big) : zg big own cc nL pc 2 (gC (.int v)) := by
  intro p l e R s m args below meth c H locs k n Qf ls L st L' st' hx hb hw hown hL hg kk
  cases hg
  exact lv_ldc hx hb hown (hw _ hc) hd (kk ls hL)
theorem zg_ldc2 {index : Nat} {v : Int64} (hd : decode cc pc = .ok (.ldc2_w index, 3)) (hc : Jvm.Cond.constantLong own index v ∈ big) : zg big own cc nL pc 3 (gC (.long v)) := by
  intro p l e R s m args below meth c H locs k n Qf ls L st L' st' hx hb hw hown hL hg kk
  cases hg
  exact lv_ldc2 hx hb hown (hw _ hc) hd (kk ls hL)
def gIl (i : Nat) : zV → List Value → Option (zV × List Value) := fun L st => match L[i]? with
  | some (some (.int x)) => some (L, .int x :: st)
  | _ => none
def gLl (i : Nat) : zV → List Value → Option (zV × List Value) := fun L st => match L[i]? with
  | some (some (.long x)) => some (L, .long x :: st)
  | _ => none
def gAl (i : Nat) : zV → List Value → Option (zV × List Value) := fun L st => match L[i]? with
  | some (some (.ref x)) => some (L, .ref x :: st)
  | some (some .null) => some (L, .null :: st)
  | _ => none
theorem zg_iload_n {j : Fin 4} {i : Nat} (hd : decode cc pc = .ok (.iload_n j, 1)) (hi : (j : Nat) = i) : zg big own cc nL pc 1 (gIl i) := by
  intro p l e R s m args below meth c H locs k n Qf ls L st L' st' hx hb hw hown hL hg kk
  unfold gIl at hg
  split at hg
  · rename_i x hx1
    cases hg
    exact lv_iload_n hx hb hd hi (hL.at hx1) (kk ls hL)
  · cases hg
theorem zg_iload {i : Nat} (hd : decode cc pc = .ok (.iload i, 2)) : zg big own cc nL pc 2 (gIl i) := by
  intro p l e R s m args below meth c H locs k n Qf ls L st L' st' hx hb hw hown hL hg kk
  unfold gIl at hg
  split at hg
  · rename_i x hx1
    cases hg
    exact lv_iload hx hb hd (hL.at hx1) (kk ls hL)
  · cases hg
theorem zg_lload_n {j : Fin 4} {i : Nat} (hd : decode cc pc = .ok (.lload_n j, 1)) (hi : (j : Nat) = i) : zg big own cc nL pc 1 (gLl i) := by
  intro p l e R s m args below meth c H locs k n Qf ls L st L' st' hx hb hw hown hL hg kk
  unfold gLl at hg
  split at hg
  · rename_i x hx1
    cases hg
    exact lv_lload_n hx hb hd hi (hL.at hx1) (kk ls hL)
  · cases hg
theorem zg_lload {i : Nat} (hd : decode cc pc = .ok (.lload i, 2)) : zg big own cc nL pc 2 (gLl i) := by
  intro p l e R s m args below meth c H locs k n Qf ls L st L' st' hx hb hw hown hL hg kk
  unfold gLl at hg
  split at hg
  · rename_i x hx1
    cases hg
    exact lv_lload hx hb hd (hL.at hx1) (kk ls hL)
  · cases hg
theorem zg_aload_n {j : Fin 4} {i : Nat} (hd : decode cc pc = .ok (.aload_n j, 1)) (hi : (j : Nat) = i) : zg big own cc nL pc 1 (gAl i) := by
  intro p l e R s m args below meth c H locs k n Qf ls L st L' st' hx hb hw hown hL hg kk
  unfold gAl at hg
  split at hg
  · rename_i x hx1
    cases hg
    exact lv_aload_n hx hb hd hi (hL.at hx1) (kk ls hL)
  · rename_i hx1
    cases hg
    exact lv_aload_nN hx hb hd hi (hL.at hx1) (kk ls hL)
  · cases hg
theorem zg_aload {i : Nat} (hd : decode cc pc = .ok (.aload i, 2)) : zg big own cc nL pc 2 (gAl i) := by
  intro p l e R s m args below meth c H locs k n Qf ls L st L' st' hx hb hw hown hL hg kk
  unfold gAl at hg
  split at hg
  · rename_i x hx1
    cases hg
    exact lv_aload hx hb hd (hL.at hx1) (kk ls hL)
  · rename_i hx1
    cases hg
    exact lv_aloadN hx hb hd (hL.at hx1) (kk ls hL)
  · cases hg
def gIs (i : Nat) : zV → List Value → Option (zV × List Value) := fun L st => match st with
  | .int x :: r => some (zs1 L i (.int x), r)
  | _ => none
def gLs (i : Nat) : zV → List Value → Option (zV × List Value) := fun L st => match st with
  | .long x :: r => some (zs2 L i (.long x), r)
  | _ => none
def gAs (i : Nat) : zV → List Value → Option (zV × List Value) := fun L st => match st with
  | .ref x :: r => some (zs1 L i (.ref x), r)
  | .null :: r => some (zs1 L i .null, r)
  | _ => none
theorem zg_istore_n {j : Fin 4} {i : Nat} (hd : decode cc pc = .ok (.istore_n j, 1)) (hi : (j : Nat) = i) (hn : i < nL) : zg big own cc nL pc 1 (gIs i) := by
  intro p l e R s m args below meth c H locs k n Qf ls L st L' st' hx hb hw hown hL hg kk
  unfold gIs at hg
  split at hg
  · rename_i x r
    cases hg
    obtain ⟨lv, h1, h2⟩ := hL.store1 i (.int x)
    exact lv_istore_n hx hb hd hi h1 hn rfl (fun ls' h' => kk ls' (h2 ls' h'))
  · cases hg
theorem zg_istore {i : Nat} (hd : decode cc pc = .ok (.istore i, 2)) (hn : i < nL) : zg big own cc nL pc 2 (gIs i) := by
  intro p l e R s m args below meth c H locs k n Qf ls L st L' st' hx hb hw hown hL hg kk
  unfold gIs at hg
  split at hg
  · rename_i x r
    cases hg
    obtain ⟨lv, h1, h2⟩ := hL.store1 i (.int x)
    exact lv_istore hx hb hd h1 hn rfl (fun ls' h' => kk ls' (h2 ls' h'))
  · cases hg
theorem zg_lstore_n {j : Fin 4} {i : Nat} (hd : decode cc pc = .ok (.lstore_n j, 1)) (hi : (j : Nat) = i) (hn : i + 1 < nL) : zg big own cc nL pc 1 (gLs i) := by
  intro p l e R s m args below meth c H locs k n Qf ls L st L' st' hx hb hw hown hL hg kk
  unfold gLs at hg
  split at hg
  · rename_i x r
    cases hg
    obtain ⟨lv, h1, h2⟩ := hL.store2 i (.long x)
    exact lv_lstore_n hx hb hd hi h1 hn rfl (fun ls' h' => kk ls' (h2 ls' h'))
  · cases hg
theorem zg_lstore {i : Nat} (hd : decode cc pc = .ok (.lstore i, 2)) (hn : i + 1 < nL) : zg big own cc nL pc 2 (gLs i) := by
  intro p l e R s m args below meth c H locs k n Qf ls L st L' st' hx hb hw hown hL hg kk
  unfold gLs at hg
  split at hg
  · rename_i x r
    cases hg
    obtain ⟨lv, h1, h2⟩ := hL.store2 i (.long x)
    exact lv_lstore hx hb hd h1 hn rfl (fun ls' h' => kk ls' (h2 ls' h'))
  · cases hg
theorem zg_astore_n {j : Fin 4} {i : Nat} (hd : decode cc pc = .ok (.astore_n j, 1)) (hi : (j : Nat) = i) (hn : i < nL) : zg big own cc nL pc 1 (gAs i) := by
  intro p l e R s m args below meth c H locs k n Qf ls L st L' st' hx hb hw hown hL hg kk
  unfold gAs at hg
  split at hg
  · rename_i x r
    cases hg
    obtain ⟨lv, h1, h2⟩ := hL.store1 i (.ref x)
    exact lv_astore_n hx hb hd hi h1 hn rfl (fun ls' h' => kk ls' (h2 ls' h'))
  · rename_i r
    cases hg
    obtain ⟨lv, h1, h2⟩ := hL.store1 i .null
    exact lv_astore_nN hx hb hd hi h1 hn rfl (fun ls' h' => kk ls' (h2 ls' h'))
  · cases hg
theorem zg_astore {i : Nat} (hd : decode cc pc = .ok (.astore i, 2)) (hn : i < nL) : zg big own cc nL pc 2 (gAs i) := by
  intro p l e R s m args below meth c H locs k n Qf ls L st L' st' hx hb hw hown hL hg kk
  unfold gAs at hg
  split at hg
  · rename_i x r
    cases hg
    obtain ⟨lv, h1, h2⟩ := hL.store1 i (.ref x)
    exact lv_astore hx hb hd h1 hn rfl (fun ls' h' => kk ls' (h2 ls' h'))
  · rename_i r
    cases hg
    obtain ⟨lv, h1, h2⟩ := hL.store1 i .null
    exact lv_astoreN hx hb hd h1 hn rfl (fun ls' h' => kk ls' (h2 ls' h'))
  · cases hg
def gIinc (i : Nat) (a : Int32) : zV → List Value → Option (zV × List Value) := fun L st => match L[i]? with
  | some (some (.int x)) => some (zs1 L i (.int (x + a)), st)
  | _ => none
theorem zg_iinc {i : Nat} {n : Int} {a : Int32} (hd : decode cc pc = .ok (.iinc i n, 3)) (ha : Int32.ofInt n = a) (hn : i < nL) : zg big own cc nL pc 3 (gIinc i a) := by
  intro p l e R s m args below meth c H locs k n Qf ls L st L' st' hx hb hw hown hL hg kk
  unfold gIinc at hg
  split at hg
  · rename_i x hx1
    cases hg
    obtain ⟨h0, lv, h1, h2⟩ := id hL
    obtain ⟨q, hq⟩ := List.getElem?_of_mem (h2 i _ hx1)
    obtain ⟨lv2, h3, h4⟩ := (show zH ls nL L from ⟨h0, lv, h1, h2⟩).store1 i (.int (x + a))
    obtain ⟨q2, hq2⟩ : ∃ q2 : Nat, lv2[q2]? = some (i, .int x) ∨ True := ⟨0, Or.inr trivial⟩
    have key : zH ls nL L := hL
    refine lv_iinc hx hb hd h1 hq (by rw [ha]) hn rfl (fun ls' h' => kk ls' ⟨(zs1_len L i _).trans h0, _, h', fun j u hj => ?_⟩)
    rcases zs1_at L i _ j u hj with ⟨rfl, rfl⟩ | ⟨a1, a2, a3⟩
    · exact List.mem_cons_self
    · refine List.mem_cons_of_mem _ (List.mem_filter.mpr ⟨h2 j u a2, ?_⟩)
      by_cases hj1 : j + 1 = i
      · have : u.category ≠ 2 := fun q => a3 ⟨hj1, q⟩
        simp [a1, this]
      · simp [a1, hj1]
  · cases hg
/-- two ints to one -/
def gII (f : Int32 → Int32 → Int32) : zV → List Value → Option (zV × List Value) := fun L st => match st with
  | .int y :: .int x :: r => some (L, .int (f x y) :: r)
  | _ => none
def gLL (f : Int64 → Int64 → Int64) : zV → List Value → Option (zV × List Value) := fun L st => match st with
  | .long y :: .long x :: r => some (L, .long (f x y) :: r)
  | _ => none
theorem zg_iadd (hd : decode cc pc = .ok (.iadd, 1)) : zg big own cc nL pc 1 (gII (fun x y => x + y)) := by
  intro p l e R s m args below meth c H locs k n Qf ls L st L' st' hx hb hw hown hL hg kk
  unfold gII at hg
  split at hg
  · cases hg; exact lv_iadd hx hb hd (kk ls hL)
  · cases hg
theorem zg_isub (hd : decode cc pc = .ok (.isub, 1)) : zg big own cc nL pc 1 (gII (fun x y => x - y)) := by
  intro p l e R s m args below meth c H locs k n Qf ls L st L' st' hx hb hw hown hL hg kk
  unfold gII at hg
  split at hg
  · cases hg; exact lv_isub hx hb hd (kk ls hL)
  · cases hg
theorem zg_imul (hd : decode cc pc = .ok (.imul, 1)) : zg big own cc nL pc 1 (gII (fun x y => x * y)) := by
  intro p l e R s m args below meth c H locs k n Qf ls L st L' st' hx hb hw hown hL hg kk
  unfold gII at hg
  split at hg
  · cases hg; exact lv_imul hx hb hd (kk ls hL)
  · cases hg
theorem zg_iand (hd : decode cc pc = .ok (.iand, 1)) : zg big own cc nL pc 1 (gII (fun x y => x &&& y)) := by
  intro p l e R s m args below meth c H locs k n Qf ls L st L' st' hx hb hw hown hL hg kk
  unfold gII at hg
  split at hg
  · cases hg; exact lv_iand hx hb hd (kk ls hL)
  · cases hg
theorem zg_ior (hd : decode cc pc = .ok (.ior, 1)) : zg big own cc nL pc 1 (gII (fun x y => x ||| y)) := by
  intro p l e R s m args below meth c H locs k n Qf ls L st L' st' hx hb hw hown hL hg kk
  unfold gII at hg
  split at hg
  · cases hg; exact lv_ior hx hb hd (kk ls hL)
  · cases hg
theorem zg_ixor (hd : decode cc pc = .ok (.ixor, 1)) : zg big own cc nL pc 1 (gII (fun x y => x ^^^ y)) := by
  intro p l e R s m args below meth c H locs k n Qf ls L st L' st' hx hb hw hown hL hg kk
  unfold gII at hg
  split at hg
  · cases hg; exact lv_ixor hx hb hd (kk ls hL)
  · cases hg
theorem zg_ladd (hd : decode cc pc = .ok (.ladd, 1)) : zg big own cc nL pc 1 (gLL (fun x y => x + y)) := by
  intro p l e R s m args below meth c H locs k n Qf ls L st L' st' hx hb hw hown hL hg kk
  unfold gLL at hg
  split at hg
  · cases hg; exact lv_ladd hx hb hd (kk ls hL)
  · cases hg
theorem zg_lsub (hd : decode cc pc = .ok (.lsub, 1)) : zg big own cc nL pc 1 (gLL (fun x y => x - y)) := by
  intro p l e R s m args below meth c H locs k n Qf ls L st L' st' hx hb hw hown hL hg kk
  unfold gLL at hg
  split at hg
  · cases hg; exact lv_lsub hx hb hd (kk ls hL)
  · cases hg
theorem zg_lmul (hd : decode cc pc = .ok (.lmul, 1)) : zg big own cc nL pc 1 (gLL (fun x y => x * y)) := by
  intro p l e R s m args below meth c H locs k n Qf ls L st L' st' hx hb hw hown hL hg kk
  unfold gLL at hg
  split at hg
  · cases hg; exact lv_lmul hx hb hd (kk ls hL)
  · cases hg
def gIneg : zV → List Value → Option (zV × List Value) := fun L st => match st with
  | .int x :: r => some (L, .int (-x) :: r)
  | _ => none
theorem zg_ineg (hd : decode cc pc = .ok (.ineg, 1)) : zg big own cc nL pc 1 gIneg := by
  intro p l e R s m args below meth c H locs k n Qf ls L st L' st' hx hb hw hown hL hg kk
  unfold gIneg at hg
  split at hg
  · cases hg; exact lv_ineg hx hb hd (kk ls hL)
  · cases hg
def gI2l : zV → List Value → Option (zV × List Value) := fun L st => match st with
  | .int x :: r => some (L, .long x.toInt64 :: r)
  | _ => none
theorem zg_i2l (hd : decode cc pc = .ok (.i2l, 1)) : zg big own cc nL pc 1 gI2l := by
  intro p l e R s m args below meth c H locs k n Qf ls L st L' st' hx hb hw hown hL hg kk
  unfold gI2l at hg
  split at hg
  · cases hg; exact lv_i2l hx hb hd rfl (kk ls hL)
  · cases hg
def gL2i : zV → List Value → Option (zV × List Value) := fun L st => match st with
  | .long x :: r => some (L, .int x.toInt32 :: r)
  | _ => none
theorem zg_l2i (hd : decode cc pc = .ok (.l2i, 1)) : zg big own cc nL pc 1 gL2i := by
  intro p l e R s m args below meth c H locs k n Qf ls L st L' st' hx hb hw hown hL hg kk
  unfold gL2i at hg
  split at hg
  · cases hg; exact lv_l2i hx hb hd rfl (kk ls hL)
  · cases hg
def gLcmp : zV → List Value → Option (zV × List Value) := fun L st => match st with
  | .long y :: .long x :: r => some (L, .int (lg_cmp x y) :: r)
  | _ => none
theorem zg_lcmp (hd : decode cc pc = .ok (.lcmp, 1)) : zg big own cc nL pc 1 gLcmp := by
  intro p l e R s m args below meth c H locs k n Qf ls L st L' st' hx hb hw hown hL hg kk
  unfold gLcmp at hg
  split at hg
  · cases hg; exact W.lcmp hx hb hd (kk ls hL)
  · cases hg
/-- a value of one word, by its kind -/
def z1 (v : Value) : Bool := match v with
  | .int _ => true
  | .ref _ => true
  | .null => true
  | _ => false
theorem z1_cat {v : Value} (h : z1 v = true) : v.category = 1 := by cases v <;> first | rfl | cases h
def gDup : zV → List Value → Option (zV × List Value) := fun L st => match st with
  | v :: r => if z1 v = true then some (L, v :: v :: r) else none
  | _ => none
theorem zg_dup (hd : decode cc pc = .ok (.dup, 1)) : zg big own cc nL pc 1 gDup := by
  intro p l e R s m args below meth c H locs k n Qf ls L st L' st' hx hb hw hown hL hg kk
  unfold gDup at hg
  split at hg
  · split at hg
    · rename_i h1
      cases hg; exact lv_dup hx hb hd (z1_cat h1) (kk ls hL)
    · cases hg
  · cases hg
def gPop : zV → List Value → Option (zV × List Value) := fun L st => match st with
  | v :: r => if z1 v = true then some (L, r) else none
  | _ => none
theorem zg_pop (hd : decode cc pc = .ok (.pop, 1)) : zg big own cc nL pc 1 gPop := by
  intro p l e R s m args below meth c H locs k n Qf ls L st L' st' hx hb hw hown hL hg kk
  unfold gPop at hg
  split at hg
  · split at hg
    · rename_i h1
      cases hg; exact lv_pop hx hb hd (z1_cat h1) (kk ls hL)
    · cases hg
  · cases hg
def gDupx1 : zV → List Value → Option (zV × List Value) := fun L st => match st with
  | v :: u :: r => if z1 v = true then (if z1 u = true then some (L, v :: u :: v :: r) else none) else none
  | _ => none
theorem zg_dup_x1 (hd : decode cc pc = .ok (.dup_x1, 1)) : zg big own cc nL pc 1 gDupx1 := by
  intro p l e R s m args below meth c H locs k n Qf ls L st L' st' hx hb hw hown hL hg kk
  unfold gDupx1 at hg
  split at hg
  · split at hg
    · rename_i h1
      split at hg
      · rename_i h2
        cases hg; exact lv_dup_x1 hx hb hd (z1_cat h1) (z1_cat h2) (kk ls hL)
      · cases hg
    · cases hg
  · cases hg
def gDup2 : zV → List Value → Option (zV × List Value) := fun L st => match st with
  | v :: u :: r => if z1 v = true then (if z1 u = true then some (L, v :: u :: v :: u :: r) else none) else none
  | _ => none
theorem zg_dup2 (hd : decode cc pc = .ok (.dup2, 1)) : zg big own cc nL pc 1 gDup2 := by
  intro p l e R s m args below meth c H locs k n Qf ls L st L' st' hx hb hw hown hL hg kk
  unfold gDup2 at hg
  split at hg
  · split at hg
    · rename_i h1
      split at hg
      · rename_i h2
        cases hg; exact lv_dup2_11 hx hb hd (z1_cat h1) (z1_cat h2) (kk ls hL)
      · cases hg
    · cases hg
  · cases hg
end ZG
end
section
/-! branches, switches -/
def zb (f : List Value → Option (Prop × List Value)) (tgt : Nat) : zP → zP := fun P d K N μ pc L st w k n Q => ∃ (φ : Prop) (st' : List Value), f st = some (φ, st') ∧ (φ → P d K N μ tgt L st' w k n Q) ∧ (¬ φ → P d K N μ (pc + 3) L st' w k n Q)
theorem zb_mono (f : List Value → Option (Prop × List Value)) (tgt : Nat) : zMono (zb f tgt) := fun _ _ h _ _ _ _ _ _ _ _ _ _ _ ⟨φ, st', h1, h2, h3⟩ => ⟨φ, st', h1, fun x => h _ _ _ _ _ _ _ _ _ _ _ (h2 x), fun x => h _ _ _ _ _ _ _ _ _ _ _ (h3 x)⟩
def zbg (cc : ByteArray) (pc tgt : Nat) (f : List Value → Option (Prop × List Value)) : Prop :=
  ∀ (p : Program) (l : Launch) (e : Env) (R : Room) (s : State) (m : MethodId) (args : Array Value) (below : List Frame) (meth : Method) (c : Code) (H : Heap) (locs : List Loc) (k n : Nat) (Qf : State → Prop) (ls : Array Slot) (st : List Value) (φ : Prop) (st' : List Value),
    p.tables.exec = Jvm.exec → c.code = cc → f st = some (φ, st') →
    (φ → W p l e R s m args below meth c H locs k n Qf (F0 m tgt ls st')) → (¬ φ → W p l e R s m args below meth c H locs k n Qf (F0 m (pc + 3) ls st')) → W p l e R s m args below meth c H locs k n Qf (F0 m pc ls st)
theorem zb_ok {l : Launch} {mt : zMt} {big nst : List Cond} {D : va_G} {cl : List vw_C} {tys : List (ClassId × FieldType)} {b0 μ pc tgt : Nat} {f : List Value → Option (Prop × List Value)} (h : zbg (mt μ).2.1 pc tgt f) : zS l mt big nst D cl tys b0 μ pc (zb f tgt) := by
  intro d K N L st w k n Q hx p e R s m args below meth c hC H locs ls hI hL
  obtain ⟨φ, st', hg, h1, h2⟩ := hx
  exact h p l e R s m args below meth c H locs k n _ ls st φ st' hC.1 hC.2.1 hg (fun x => h1 x p e R s m args below meth c hC H locs ls hI hL) (fun x => h2 x p e R s m args below meth c hC H locs ls hI hL)
def c1 (φ : Int32 → Prop) : List Value → Option (Prop × List Value) := fun st => match st with
  | .int x :: r => some (φ x, r)
  | _ => none
def c2 (φ : Int32 → Int32 → Prop) : List Value → Option (Prop × List Value) := fun st => match st with
  | .int y :: .int x :: r => some (φ x y, r)
  | _ => none
section ZB
variable {cc : ByteArray} {pc tgt : Nat} {off : Int}
theorem zb_eq (hd : decode cc pc = .ok (.ifCond .eq off, 3)) (ht : (pc : Int) + off = (tgt : Int)) : zbg cc pc tgt (c1 (fun x => x = 0)) := by
  intro p l e R s m args below meth c H locs k n Qf ls st φ st' hx hb hg h1 h2
  unfold c1 at hg
  split at hg
  · cases hg; exact lv_if_eq hx hb hd ht h1 h2
  · cases hg
theorem zb_ne (hd : decode cc pc = .ok (.ifCond .ne off, 3)) (ht : (pc : Int) + off = (tgt : Int)) : zbg cc pc tgt (c1 (fun x => ¬ x = 0)) := by
  intro p l e R s m args below meth c H locs k n Qf ls st φ st' hx hb hg h1 h2
  unfold c1 at hg
  split at hg
  · cases hg; exact lv_if_ne hx hb hd ht h1 (fun q => h2 (fun z => z q))
  · cases hg
theorem zb_lt (hd : decode cc pc = .ok (.ifCond .lt off, 3)) (ht : (pc : Int) + off = (tgt : Int)) : zbg cc pc tgt (c1 (fun x => x < 0)) := by
  intro p l e R s m args below meth c H locs k n Qf ls st φ st' hx hb hg h1 h2
  unfold c1 at hg
  split at hg
  · cases hg; exact lv_if_lt hx hb hd ht h1 h2
  · cases hg
theorem zb_ge (hd : decode cc pc = .ok (.ifCond .ge off, 3)) (ht : (pc : Int) + off = (tgt : Int)) : zbg cc pc tgt (c1 (fun x => 0 ≤ x)) := by
  intro p l e R s m args below meth c H locs k n Qf ls st φ st' hx hb hg h1 h2
  unfold c1 at hg
  split at hg
  · cases hg; exact lv_if_ge hx hb hd ht h1 h2
  · cases hg
theorem zb_gt (hd : decode cc pc = .ok (.ifCond .gt off, 3)) (ht : (pc : Int) + off = (tgt : Int)) : zbg cc pc tgt (c1 (fun x => 0 < x)) := by
  intro p l e R s m args below meth c H locs k n Qf ls st φ st' hx hb hg h1 h2
  unfold c1 at hg
  split at hg
  · cases hg; exact lv_if_gt hx hb hd ht h1 h2
  · cases hg
theorem zb_le (hd : decode cc pc = .ok (.ifCond .le off, 3)) (ht : (pc : Int) + off = (tgt : Int)) : zbg cc pc tgt (c1 (fun x => x ≤ 0)) := by
  intro p l e R s m args below meth c H locs k n Qf ls st φ st' hx hb hg h1 h2
  unfold c1 at hg
  split at hg
  · cases hg; exact lv_if_le hx hb hd ht h1 h2
  · cases hg
theorem zb_ieq (hd : decode cc pc = .ok (.if_icmp .eq off, 3)) (ht : (pc : Int) + off = (tgt : Int)) : zbg cc pc tgt (c2 (fun x y => x = y)) := by
  intro p l e R s m args below meth c H locs k n Qf ls st φ st' hx hb hg h1 h2
  unfold c2 at hg
  split at hg
  · cases hg; exact lv_icmp_eq hx hb hd ht h1 h2
  · cases hg
theorem zb_ine (hd : decode cc pc = .ok (.if_icmp .ne off, 3)) (ht : (pc : Int) + off = (tgt : Int)) : zbg cc pc tgt (c2 (fun x y => ¬ x = y)) := by
  intro p l e R s m args below meth c H locs k n Qf ls st φ st' hx hb hg h1 h2
  unfold c2 at hg
  split at hg
  · cases hg; exact lv_icmp_ne hx hb hd ht h1 (fun q => h2 (fun z => z q))
  · cases hg
theorem zb_ilt (hd : decode cc pc = .ok (.if_icmp .lt off, 3)) (ht : (pc : Int) + off = (tgt : Int)) : zbg cc pc tgt (c2 (fun x y => x < y)) := by
  intro p l e R s m args below meth c H locs k n Qf ls st φ st' hx hb hg h1 h2
  unfold c2 at hg
  split at hg
  · cases hg; exact lv_icmp_lt hx hb hd ht h1 h2
  · cases hg
theorem zb_ige (hd : decode cc pc = .ok (.if_icmp .ge off, 3)) (ht : (pc : Int) + off = (tgt : Int)) : zbg cc pc tgt (c2 (fun x y => y ≤ x)) := by
  intro p l e R s m args below meth c H locs k n Qf ls st φ st' hx hb hg h1 h2
  unfold c2 at hg
  split at hg
  · cases hg; exact lv_icmp_ge hx hb hd ht h1 h2
  · cases hg
theorem zb_igt (hd : decode cc pc = .ok (.if_icmp .gt off, 3)) (ht : (pc : Int) + off = (tgt : Int)) : zbg cc pc tgt (c2 (fun x y => y < x)) := by
  intro p l e R s m args below meth c H locs k n Qf ls st φ st' hx hb hg h1 h2
  unfold c2 at hg
  split at hg
  · cases hg; exact lv_icmp_gt hx hb hd ht h1 h2
  · cases hg
theorem zb_ile (hd : decode cc pc = .ok (.if_icmp .le off, 3)) (ht : (pc : Int) + off = (tgt : Int)) : zbg cc pc tgt (c2 (fun x y => x ≤ y)) := by
  intro p l e R s m args below meth c H locs k n Qf ls st φ st' hx hb hg h1 h2
  unfold c2 at hg
  split at hg
  · cases hg; exact lv_icmp_le hx hb hd ht h1 h2
  · cases hg
/-- null or not -/
def cN : List Value → Option (Prop × List Value) := fun st => match st with
  | .null :: r => some (True, r)
  | .ref _ :: r => some (False, r)
  | _ => none
def cNN : List Value → Option (Prop × List Value) := fun st => match st with
  | .null :: r => some (False, r)
  | .ref _ :: r => some (True, r)
  | _ => none
theorem zb_null (hd : decode cc pc = .ok (.ifnull off, 3)) (ht : (pc : Int) + off = (tgt : Int)) : zbg cc pc tgt cN := by
  intro p l e R s m args below meth c H locs k n Qf ls st φ st' hx hb hg h1 h2
  unfold cN at hg
  split at hg
  · cases hg; exact lv_ifnullN hx hb hd ht (h1 trivial)
  · cases hg; exact lv_ifnull hx hb hd (h2 (fun q => q))
  · cases hg
theorem zb_nonnull (hd : decode cc pc = .ok (.ifnonnull off, 3)) (ht : (pc : Int) + off = (tgt : Int)) : zbg cc pc tgt cNN := by
  intro p l e R s m args below meth c H locs k n Qf ls st φ st' hx hb hg h1 h2
  unfold cNN at hg
  split at hg
  · cases hg; exact lv_ifnonnullN hx hb hd (h2 (fun q => q))
  · cases hg; exact lv_ifnonnull hx hb hd ht (h1 trivial)
  · cases hg
/-- the same object -/
def zrf (v : Value) : Option (Option Nat) := match v with
  | .null => some none
  | .ref a => some (some a)
  | _ => none
theorem zrf_rf {v : Value} {r : Option Nat} (h : zrf v = some r) : v = va_rf r := by
  cases v <;> first | (cases h; rfl) | cases h
def cA (eq : Bool) : List Value → Option (Prop × List Value) := fun st => match st with
  | y :: x :: r => match zrf y, zrf x with
    | some b, some a => some ((if eq = true then a = b else ¬ a = b), r)
    | _, _ => none
  | _ => none
theorem zb_aeq (hd : decode cc pc = .ok (.if_acmp .eq off, 3)) (ht : (pc : Int) + off = (tgt : Int)) : zbg cc pc tgt (cA true) := by
  intro p l e R s m args below meth c H locs k n Qf ls st φ st' hx hb hg h1 h2
  unfold cA at hg
  split at hg
  · split at hg
    · rename_i b a hb1 ha1
      cases hg
      rw [zrf_rf hb1, zrf_rf ha1]
      exact lv_acmp_eq hx hb hd ht h1 h2
    · cases hg
  · cases hg
theorem zb_ane (hd : decode cc pc = .ok (.if_acmp .ne off, 3)) (ht : (pc : Int) + off = (tgt : Int)) : zbg cc pc tgt (cA false) := by
  intro p l e R s m args below meth c H locs k n Qf ls st φ st' hx hb hg h1 h2
  unfold cA at hg
  split at hg
  · split at hg
    · rename_i b a hb1 ha1
      cases hg
      rw [zrf_rf hb1, zrf_rf ha1]
      exact lv_acmp_ne hx hb hd ht (fun q => h1 (by simpa using q)) (fun q => h2 (by simpa using q))
    · cases hg
  · cases hg
end ZB
def zj (tgt : Nat) : zP → zP := fun P d K N μ _ L st w k n Q => P d K N μ tgt L st w k n Q
theorem zj_mono (tgt : Nat) : zMono (zj tgt) := fun _ _ h _ _ _ _ _ _ _ _ _ _ _ hx => h _ _ _ _ _ _ _ _ _ _ _ hx
section ZJ
variable {l : Launch} {mt : zMt} {big nst : List Cond} {D : va_G} {cl : List vw_C} {tys : List (ClassId × FieldType)} {b0 μ pc : Nat}
theorem zj_ok {tgt : Nat} {off : Int} (hd : decode (mt μ).2.1 pc = .ok (.goto off, 3)) (ht : (pc : Int) + off = (tgt : Int)) : zS l mt big nst D cl tys b0 μ pc (zj tgt) := by
  intro d K N L st w k n Q hx p e R s m args below meth c hC H locs ls hI hL
  exact lv_goto hC.1 hC.2.1 hd ht (hx p e R s m args below meth c hC H locs ls hI hL)
/-- a switch: the target that belongs to the number, else the other one -/
def zswt (cs : List (Int × Nat)) (dflt : Nat) (x : Int) : Nat := match cs with
  | [] => dflt
  | (a, t) :: r => if x = a then t else zswt r dflt x
def zsw (cs : List (Int × Nat)) (dflt : Nat) : zP → zP := fun P d K N μ _ L st w k n Q => ∃ (x : Int32) (r : List Value) (t : Nat), st = .int x :: r ∧ zswt cs dflt x.toInt = t ∧ P d K N μ t L r w k n Q
theorem zsw_mono (cs : List (Int × Nat)) (dflt : Nat) : zMono (zsw cs dflt) := fun _ _ h _ _ _ _ _ _ _ _ _ _ _ ⟨x, r, t, h1, h2, h3⟩ => ⟨x, r, t, h1, h2, h _ _ _ _ _ _ _ _ _ _ _ h3⟩
theorem zswt_look (pc : Nat) : ∀ (ps : List (Int × Int)) (cs : List (Int × Nat)) (off : Int) (dflt : Nat), ps.map (fun q => (q.1, (pc : Int) + q.2)) = cs.map (fun q => (q.1, (q.2 : Int))) → (pc : Int) + off = (dflt : Int) → ∀ x : Int, (pc : Int) + Op.lookupswitch.offset ps off x = (zswt cs dflt x : Int)
  | [], [], off, dflt, _, h0, x => by simpa [Op.lookupswitch.offset, zswt] using h0
  | [], _ :: _, _, _, h, _, _ => by simp at h
  | _ :: _, [], _, _, h, _, _ => by simp at h
  | (a, o) :: ps, (b, t) :: cs, off, dflt, h, h0, x => by
    simp only [List.map_cons, List.cons.injEq, Prod.mk.injEq] at h
    obtain ⟨⟨h1, h2⟩, h3⟩ := h
    subst h1
    rw [Op.lookupswitch.offset_cons]
    by_cases hx : x = a
    · subst hx
      simp [zswt, h2]
    · rw [if_neg (by first | exact hx | exact fun q => hx q.symm)]
      simp only [zswt, hx, if_false]
      exact zswt_look pc ps cs off dflt h3 h0 x
theorem zsw_look {cs : List (Int × Nat)} {dflt len : Nat} {off : Int} {ps : Array (Int × Int)} (hd : decode (mt μ).2.1 pc = .ok (.lookupswitch off ps, len)) (hp : (ps.toList.zip (ps.toList.drop 1)).all (fun (a, next) => a.1 < next.1) = true) (hc : ps.toList.map (fun q => (q.1, (pc : Int) + q.2)) = cs.map (fun q => (q.1, (q.2 : Int)))) (h0 : (pc : Int) + off = (dflt : Int)) : zS l mt big nst D cl tys b0 μ pc (zsw cs dflt) := by
  intro d K N L st w k n Q hx p e R s m args below meth c hC H locs ls hI hL
  obtain ⟨x, r, t, rfl, rfl, h3⟩ := hx
  exact lv_lookup hC.1 hC.2.1 hd hp rfl (zswt_look pc ps.toList cs off dflt hc h0 x.toInt) (h3 p e R s m args below meth c hC H locs ls hI hL)
theorem zswt_tab (pc : Nat) : ∀ (offs : List Int) (lo : Int) (cs : List (Int × Nat)) (dflt : Nat), (offs.zipIdx.map (fun q => (lo + q.2, (pc : Int) + q.1))) = cs.map (fun q => (q.1, (q.2 : Int))) → ∀ (x : Int), (∀ j : Nat, x = lo + j → ∀ o, offs[j]? = some o → (pc : Int) + o = (zswt cs dflt x : Int)) ∧ ((x < lo ∨ lo + offs.length ≤ x) → zswt cs dflt x = dflt) := by
  intro offs
  suffices h : ∀ (offs : List Int) (lo : Int) (k0 : Nat) (cs : List (Int × Nat)) (dflt : Nat), ((offs.zipIdx k0).map (fun q => (lo + q.2, (pc : Int) + q.1))) = cs.map (fun q => (q.1, (q.2 : Int))) → ∀ (x : Int), (∀ j : Nat, x = lo + k0 + j → ∀ o, offs[j]? = some o → (pc : Int) + o = (zswt cs dflt x : Int)) ∧ ((x < lo + k0 ∨ lo + k0 + offs.length ≤ x) → zswt cs dflt x = dflt) by
    intro lo cs dflt hc x
    have := h offs lo 0 cs dflt hc x
    simpa using this
  intro offs
  induction offs with
  | nil =>
    intro lo k0 cs dflt hc x
    cases cs with
    | nil => exact ⟨fun j _ o ho => by simp at ho, fun _ => rfl⟩
    | cons a b => simp at hc
  | cons o0 offs ih =>
    intro lo k0 cs dflt hc x
    cases cs with
    | nil => simp at hc
    | cons a cs =>
      obtain ⟨a1, a2⟩ := a
      simp only [List.zipIdx_cons, List.map_cons, List.cons.injEq, Prod.mk.injEq] at hc
      obtain ⟨⟨h1, h2⟩, h3⟩ := hc
      obtain ⟨i1, i2⟩ := ih lo (k0 + 1) cs dflt h3 x
      constructor
      · intro j hj o ho
        cases j with
        | zero =>
          simp at ho
          subst ho
          have : x = a1 := by rw [← h1]; simpa using hj
          simp [zswt, this, h2]
        | succ j =>
          have hne : ¬ x = a1 := by rw [← h1]; omega
          simp only [zswt, hne, if_false]
          exact i1 j (by push_cast at hj ⊢; omega) o (by simpa using ho)
      · intro hx
        have hne : ¬ x = a1 := by rw [← h1]; simp only [List.length_cons] at hx; push_cast at hx; omega
        simp only [zswt, hne, if_false]
        exact i2 (by simp only [List.length_cons] at hx; push_cast at hx ⊢; omega)
theorem zsw_tab {cs : List (Int × Nat)} {dflt len : Nat} {off lo hi : Int} {offs : Array Int} (hd : decode (mt μ).2.1 pc = .ok (.tableswitch off lo hi offs, len)) (hh : hi = lo + (offs.toList.length : Int) - 1) (hc : (offs.toList.zipIdx.map (fun q => (lo + q.2, (pc : Int) + q.1))) = cs.map (fun q => (q.1, (q.2 : Int)))) (h0 : (pc : Int) + off = (dflt : Int)) : zS l mt big nst D cl tys b0 μ pc (zsw cs dflt) := by
  intro d K N L st w k n Q hx p e R s m args below meth c hC H locs ls hI hL
  obtain ⟨x, r, t, rfl, rfl, h3⟩ := hx
  obtain ⟨t1, t2⟩ := zswt_tab pc offs.toList lo cs dflt hc x.toInt
  have hk := h3 p e R s m args below meth c hC H locs ls hI hL
  by_cases hout : x.toInt < lo ∨ hi < x.toInt
  · rw [t2 (by rcases hout with h | h; exact Or.inl h; exact Or.inr (by omega))] at hk
    exact lv_tableOut hC.1 hC.2.1 hd hout h0 hk
  · have h1 : ¬ x.toInt < lo := fun q => hout (Or.inl q)
    have h2 : ¬ hi < x.toInt := fun q => hout (Or.inr q)
    have hj : (x.toInt - lo).toNat < offs.toList.length := by omega
    have ho : offs.toList[(x.toInt - lo).toNat]? = some offs.toList[(x.toInt - lo).toNat] := List.getElem?_eq_getElem hj
    refine lv_tableIn hC.1 hC.2.1 hd h1 h2 (by rw [← Array.getElem?_toList]; exact ho) (t1 _ (by omega) _ ho) hk
/-- division: not by 0 -/
def zdv (f : Int32 → Int32 → Int32) : zP → zP := fun P d K N μ pc L st w k n Q => ∃ (x y : Int32) (r : List Value), st = .int y :: .int x :: r ∧ ¬ y = 0 ∧ P d K N μ (pc + 1) L (.int (f x y) :: r) w k n Q
theorem zdv_mono (f : Int32 → Int32 → Int32) : zMono (zdv f) := fun _ _ h _ _ _ _ _ _ _ _ _ _ _ ⟨x, y, r, h1, h2, h3⟩ => ⟨x, y, r, h1, h2, h _ _ _ _ _ _ _ _ _ _ _ h3⟩
theorem zdv_div (hd : decode (mt μ).2.1 pc = .ok (.idiv, 1)) : zS l mt big nst D cl tys b0 μ pc (zdv (fun x y => x / y)) := by
  intro d K N L st w k n Q hx p e R s m args below meth c hC H locs ls hI hL
  obtain ⟨x, y, r, rfl, h2, h3⟩ := hx
  exact lv_idiv hC.1 hC.2.1 hd h2 (h3 p e R s m args below meth c hC H locs ls hI hL)
theorem zdv_rem (hd : decode (mt μ).2.1 pc = .ok (.irem, 1)) : zS l mt big nst D cl tys b0 μ pc (zdv (fun x y => x - x / y * y)) := by
  intro d K N L st w k n Q hx p e R s m args below meth c hC H locs ls hI hL
  obtain ⟨x, y, r, rfl, h2, h3⟩ := hx
  exact lv_irem hC.1 hC.2.1 hd h2 (h3 p e R s m args below meth c hC H locs ls hI hL)
/-! fields -/
def zget (ci kf : Nat) : zP → zP := fun P d K N μ pc L st w k n Q => ∃ (a : Nat) (r : List Value) (fs : List Value) (v : Value), st = .ref a :: r ∧ w a = some (.inr (ci, fs)) ∧ fs[kf]? = some v ∧ P d K N μ (pc + 3) L (v :: r) w k n Q
theorem zget_mono (ci kf : Nat) : zMono (zget ci kf) := fun _ _ h _ _ _ _ _ _ _ _ _ _ _ ⟨a, r, fs, v, h1, h2, h3, h4⟩ => ⟨a, r, fs, v, h1, h2, h3, h _ _ _ _ _ _ _ _ _ _ _ h4⟩
theorem zget_ok {ci kf index NN : Nat} {C ref : String} {T : u_T} (hd : decode (mt μ).2.1 pc = .ok (.getfield index, 3)) (hc : cl[ci]? = some (C, T, NN)) (hin : ∀ w ∈ u_ws C T NN, w ∈ big) (hk : kf < NN) (hl : Cond.fieldLink (mt μ).1.cls index ref (T kf).2.1 (T kf).2.2.1 ∈ big) (hsame : (T kf).1 = ref) : zS l mt big nst D cl tys b0 μ pc (zget ci kf) := by
  intro d K N L st w k n Q hx p e R s m args below meth c hC H locs ls hI hL
  obtain ⟨a, r, fs, v, rfl, h2, h3, h4⟩ := hx
  exact ww_get hC.1 hC.2.1 hC.2.2.2.2.1 hin hC.2.2.2.2.2.1 hC.2.2.2.2.2.2.2.2.1 hI h2 hc kf hk (hC.2.2.2.2.1 _ hl) (fun x hx => by rw [← hsame]; exact hx) h3 hd (h4 p e R s m args below meth c hC H locs ls hI hL)
/-- may v lie in a field of this type -/
def zfit (ty : FieldType) (v : Value) : Prop := narrow ty v = v ∧ fits ty v = true
def zput (ty : FieldType) (ci kf : Nat) : zP → zP := fun P d K N μ pc L st w k n Q => ∃ (a : Nat) (v : Value) (r : List Value) (fs : List Value), st = v :: .ref a :: r ∧ w a = some (.inr (ci, fs)) ∧ kf < fs.length ∧ zfit ty v ∧ P d K N μ (pc + 3) L r (va_up w a (some (.inr (ci, fs.set kf v)))) k n Q
theorem zput_mono (ty : FieldType) (ci kf : Nat) : zMono (zput ty ci kf) := fun _ _ h _ _ _ _ _ _ _ _ _ _ _ ⟨a, v, r, fs, h1, h2, h3, h4, h5⟩ => ⟨a, v, r, fs, h1, h2, h3, h4, h _ _ _ _ _ _ _ _ _ _ _ h5⟩
theorem zput_ok {ty : FieldType} {ci kf index NN : Nat} {C ref : String} {T : u_T} (ty0 : Nat → FieldType) (hd : decode (mt μ).2.1 pc = .ok (.putfield index, 3)) (hc : cl[ci]? = some (C, T, NN)) (hin : ∀ w ∈ u_ws C T NN, w ∈ big) (hty : ∀ k, k < NN → parseFieldDescriptor (T k).2.2.1 = some (ty0 k)) (hnm : ∀ a, a < NN → ∀ b, b < NN → a ≠ b → (T a).2.1 ≠ (T b).2.1) (hk : kf < NN) (hl : Cond.fieldLink (mt μ).1.cls index ref (T kf).2.1 (T kf).2.2.1 ∈ big) (hsame : (T kf).1 = ref) (hfin : (T kf).2.2.2 = false ∨ ((T kf).2.2.2 = true ∧ (mt μ).1.name = "<init>" ∧ (T kf).1 = (mt μ).1.cls)) (ht : ty0 kf = ty) : zS l mt big nst D cl tys b0 μ pc (zput ty ci kf) := by
  intro d K N L st w k n Q hx p e R s m args below meth c hC H locs ls hI hL
  obtain ⟨a, v, r, fs, rfl, h2, h3, h4, h5⟩ := hx
  have hdd : parseFieldDescriptor (T kf).2.2.1 = some ty := by rw [← ht]; exact hty kf hk
  rcases hfin with hf | ⟨hf, hi, ho⟩
  · exact ww_put hC.1 hC.2.1 hC.2.2.2.2.1 hin ty0 hty hnm hC.2.2.2.2.2.1 hC.2.2.2.2.2.2.2.2.1 hI h2 hc kf hk (hC.2.2.2.2.1 _ hl) (fun x hx => by rw [← hsame]; exact hx) hf hdd h4.1 h4.2 h3 hd (fun H1 locs1 hI1 => h5 p e R s m args below meth c hC H1 locs1 ls hI1 hL)
  · exact ww_putF hC.1 hC.2.1 hC.2.2.2.2.1 hin ty0 hty hnm hC.2.2.2.2.2.1 hC.2.2.2.2.2.2.2.2.1 hI h2 hc kf hk (hC.2.2.2.2.1 _ hl) (fun x hx => by rw [← hsame]; exact hx) hf (hC.2.2.2.2.2.2.2.1.trans hi) ho hdd h4.1 h4.2 h3 hd (fun H1 locs1 hI1 => h5 p e R s m args below meth c hC H1 locs1 ls hI1 hL)
/-! new objects -/
def znew (ci NN : Nat) (fs : List Value) : zP → zP := fun P d K N μ pc L st w k n Q => k + 1 ≤ K ∧ n + NN ≤ N ∧ ∀ q : Nat, w q = none → P d K N μ (pc + 3) L (.ref q :: st) (va_up w q (some (.inr (ci, fs)))) (k + 1) (n + NN) Q
theorem znew_mono (ci NN : Nat) (fs : List Value) : zMono (znew ci NN fs) := fun _ _ h _ _ _ _ _ _ _ _ _ _ _ ⟨h1, h2, h3⟩ => ⟨h1, h2, fun q hq => h _ _ _ _ _ _ _ _ _ _ _ (h3 q hq)⟩
theorem znew_ok {ci NN index : Nat} {fs : List Value} {C : String} {T : u_T} (ty0 : Nat → FieldType) (hd : decode (mt μ).2.1 pc = .ok (.new index, 3)) (hc : cl[ci]? = some (C, T, NN)) (hin : ∀ w ∈ u_ws C T NN, w ∈ big) (hty : ∀ k, k < NN → parseFieldDescriptor (T k).2.2.1 = some (ty0 k)) (hl : Cond.classLink (mt μ).1.cls index C ∈ big) (hi : Cond.instantiable C NN ∈ big) (hz : Cond.initialized C ∈ big) (hfs : ∀ j, j < NN → defaultValue (ty0 j) = vp_V fs j) : zS l mt big nst D cl tys b0 μ pc (znew ci NN fs) := by
  intro d K N L st w k n Q hx p e R s m args below meth c hC H locs ls hI hL
  obtain ⟨h1, h2, h3⟩ := hx
  exact ww_new hC.1 hC.2.1 hC.2.2.2.2.1 hin ty0 hty hC.2.2.2.2.2.1 (hC.2.2.2.2.1 _ hl) (hC.2.2.2.2.1 _ hi) (hC.2.2.2.2.1 _ hz) hC.2.2.2.2.2.2.2.2.1 hI hc hfs (Nat.le_trans h1 hC.2.2.2.2.2.2.2.2.2.2.2.1) (Nat.le_trans h2 hC.2.2.2.2.2.2.2.2.2.2.2.2.1) hd (fun q H1 hq hI1 => h3 q hq p e R s m args below meth c hC H1 locs ls hI1 hL)
/-! arrays: t names the array's class by its place in tys -/
def zalen (tys : List (ClassId × FieldType)) : zP → zP := fun P d K N μ pc L st w k n Q => ∃ (a : Nat) (r : List Value) (t : Nat) (cA : ClassId) (ty : FieldType) (x : vp_A), st = .ref a :: r ∧ tys[t]? = some (cA, ty) ∧ w a = some (.inl (cA, x)) ∧ P d K N μ (pc + 1) L (.int (nI x.1) :: r) w k n Q
theorem zalen_mono (tys : List (ClassId × FieldType)) : zMono (zalen tys) := fun _ _ h _ _ _ _ _ _ _ _ _ _ _ ⟨a, r, t, cA, ty, x, h1, h2, h3, h4⟩ => ⟨a, r, t, cA, ty, x, h1, h2, h3, h _ _ _ _ _ _ _ _ _ _ _ h4⟩
theorem zalen_ok (hd : decode (mt μ).2.1 pc = .ok (.arraylength, 1)) : zS l mt big nst D cl tys b0 μ pc (zalen tys) := by
  intro d K N L st w k n Q hx p e R s m args below meth c hC H locs ls hI hL
  obtain ⟨a, r, t, cA, ty, x, rfl, h2, h3, h4⟩ := hx
  exact ww_alen hC.1 hC.2.1 hC.2.2.2.2.2.2.2.2.1 hI t h3 h2 rfl hd (h4 p e R s m args below meth c hC H locs ls hI hL)
def ziald (tys : List (ClassId × FieldType)) : zP → zP := fun P d K N μ pc L st w k n Q => ∃ (a j : Nat) (r : List Value) (t : Nat) (cA : ClassId) (NA : Nat) (f : Nat → Int32), st = .int (nI j) :: .ref a :: r ∧ tys[t]? = some (cA, .int) ∧ w a = some (.inl (cA, NA, .inl f)) ∧ j < NA ∧ NA < 2 ^ 31 ∧ P d K N μ (pc + 1) L (.int (f j) :: r) w k n Q
theorem ziald_mono (tys : List (ClassId × FieldType)) : zMono (ziald tys) := fun _ _ h _ _ _ _ _ _ _ _ _ _ _ ⟨a, j, r, t, cA, NA, f, h1, h2, h3, h4, h5, h6⟩ => ⟨a, j, r, t, cA, NA, f, h1, h2, h3, h4, h5, h _ _ _ _ _ _ _ _ _ _ _ h6⟩
theorem ziald_ok (hd : decode (mt μ).2.1 pc = .ok (.iaload, 1)) : zS l mt big nst D cl tys b0 μ pc (ziald tys) := by
  intro d K N L st w k n Q hx p e R s m args below meth c hC H locs ls hI hL
  obtain ⟨a, j, r, t, cA, NA, f, rfl, h2, h3, h4, h5, h6⟩ := hx
  have hk := h6 p e R s m args below meth c hC H locs ls hI hL
  refine ww_iald hC.1 hC.2.1 hC.2.2.2.2.2.2.2.2.1 hI t h3 h2 (vp_in_nI h4 h5) hd ?_
  rw [nI_clamp (Nat.lt_trans h4 h5)]
  exact hk
def ziast (tys : List (ClassId × FieldType)) : zP → zP := fun P d K N μ pc L st w k n Q => ∃ (a j : Nat) (x : Int32) (r : List Value) (t : Nat) (cA : ClassId) (NA : Nat) (f : Nat → Int32), st = .int x :: .int (nI j) :: .ref a :: r ∧ tys[t]? = some (cA, .int) ∧ w a = some (.inl (cA, NA, .inl f)) ∧ j < NA ∧ NA < 2 ^ 31 ∧ P d K N μ (pc + 1) L r (va_up w a (some (.inl (cA, NA, .inl (upd f j x))))) k n Q
theorem ziast_mono (tys : List (ClassId × FieldType)) : zMono (ziast tys) := fun _ _ h _ _ _ _ _ _ _ _ _ _ _ ⟨a, j, x, r, t, cA, NA, f, h1, h2, h3, h4, h5, h6⟩ => ⟨a, j, x, r, t, cA, NA, f, h1, h2, h3, h4, h5, h _ _ _ _ _ _ _ _ _ _ _ h6⟩
theorem ziast_ok (hd : decode (mt μ).2.1 pc = .ok (.iastore, 1)) : zS l mt big nst D cl tys b0 μ pc (ziast tys) := by
  intro d K N L st w k n Q hx p e R s m args below meth c hC H locs ls hI hL
  obtain ⟨a, j, x, r, t, cA, NA, f, rfl, h2, h3, h4, h5, h6⟩ := hx
  refine ww_iast hC.1 hC.2.1 hC.2.2.2.2.2.2.2.2.1 hI t h3 h2 (vp_in_nI h4 h5) hd (fun H1 locs1 hI1 => ?_)
  rw [nI_clamp (Nat.lt_trans h4 h5)] at hI1
  exact h6 p e R s m args below meth c hC H1 locs1 ls hI1 hL
def zlald (tys : List (ClassId × FieldType)) : zP → zP := fun P d K N μ pc L st w k n Q => ∃ (a j : Nat) (r : List Value) (t : Nat) (cA : ClassId) (NA : Nat) (f : Nat → Int64), st = .int (nI j) :: .ref a :: r ∧ tys[t]? = some (cA, .long) ∧ w a = some (.inl (cA, NA, .inr (.inl f))) ∧ j < NA ∧ NA < 2 ^ 31 ∧ P d K N μ (pc + 1) L (.long (f j) :: r) w k n Q
theorem zlald_mono (tys : List (ClassId × FieldType)) : zMono (zlald tys) := fun _ _ h _ _ _ _ _ _ _ _ _ _ _ ⟨a, j, r, t, cA, NA, f, h1, h2, h3, h4, h5, h6⟩ => ⟨a, j, r, t, cA, NA, f, h1, h2, h3, h4, h5, h _ _ _ _ _ _ _ _ _ _ _ h6⟩
theorem zlald_ok (hd : decode (mt μ).2.1 pc = .ok (.laload, 1)) : zS l mt big nst D cl tys b0 μ pc (zlald tys) := by
  intro d K N L st w k n Q hx p e R s m args below meth c hC H locs ls hI hL
  obtain ⟨a, j, r, t, cA, NA, f, rfl, h2, h3, h4, h5, h6⟩ := hx
  have hk := h6 p e R s m args below meth c hC H locs ls hI hL
  refine ww_lald hC.1 hC.2.1 hC.2.2.2.2.2.2.2.2.1 hI t h3 h2 (vp_in_nI h4 h5) hd ?_
  rw [nI_clamp (Nat.lt_trans h4 h5)]
  exact hk
def zlast (tys : List (ClassId × FieldType)) : zP → zP := fun P d K N μ pc L st w k n Q => ∃ (a j : Nat) (x : Int64) (r : List Value) (t : Nat) (cA : ClassId) (NA : Nat) (f : Nat → Int64), st = .long x :: .int (nI j) :: .ref a :: r ∧ tys[t]? = some (cA, .long) ∧ w a = some (.inl (cA, NA, .inr (.inl f))) ∧ j < NA ∧ NA < 2 ^ 31 ∧ P d K N μ (pc + 1) L r (va_up w a (some (.inl (cA, NA, .inr (.inl (vp_updL f j x)))))) k n Q
theorem zlast_mono (tys : List (ClassId × FieldType)) : zMono (zlast tys) := fun _ _ h _ _ _ _ _ _ _ _ _ _ _ ⟨a, j, x, r, t, cA, NA, f, h1, h2, h3, h4, h5, h6⟩ => ⟨a, j, x, r, t, cA, NA, f, h1, h2, h3, h4, h5, h _ _ _ _ _ _ _ _ _ _ _ h6⟩
theorem zlast_ok (hd : decode (mt μ).2.1 pc = .ok (.lastore, 1)) : zS l mt big nst D cl tys b0 μ pc (zlast tys) := by
  intro d K N L st w k n Q hx p e R s m args below meth c hC H locs ls hI hL
  obtain ⟨a, j, x, r, t, cA, NA, f, rfl, h2, h3, h4, h5, h6⟩ := hx
  refine ww_last hC.1 hC.2.1 hC.2.2.2.2.2.2.2.2.1 hI t h3 h2 (vp_in_nI h4 h5) hd (fun H1 locs1 hI1 => ?_)
  rw [nI_clamp (Nat.lt_trans h4 h5)] at hI1
  exact h6 p e R s m args below meth c hC H1 locs1 ls hI1 hL
def zaald (tys : List (ClassId × FieldType)) : zP → zP := fun P d K N μ pc L st w k n Q => ∃ (a j : Nat) (r : List Value) (t : Nat) (cA : ClassId) (C : String) (NA : Nat) (f : Nat → Option Nat) (v : Value), st = .int (nI j) :: .ref a :: r ∧ tys[t]? = some (cA, .object C) ∧ w a = some (.inl (cA, NA, .inr (.inr (.inr (.inr f))))) ∧ j < NA ∧ NA < 2 ^ 31 ∧ v = va_rf (f j) ∧ P d K N μ (pc + 1) L (v :: r) w k n Q
theorem zaald_mono (tys : List (ClassId × FieldType)) : zMono (zaald tys) := fun _ _ h _ _ _ _ _ _ _ _ _ _ _ ⟨a, j, r, t, cA, C, NA, f, v, h1, h2, h3, h4, h5, h6, h7⟩ => ⟨a, j, r, t, cA, C, NA, f, v, h1, h2, h3, h4, h5, h6, h _ _ _ _ _ _ _ _ _ _ _ h7⟩
theorem zaald_ok (hd : decode (mt μ).2.1 pc = .ok (.aaload, 1)) : zS l mt big nst D cl tys b0 μ pc (zaald tys) := by
  intro d K N L st w k n Q hx p e R s m args below meth c hC H locs ls hI hL
  obtain ⟨a, j, r, t, cA, C, NA, f, v, rfl, h2, h3, h4, h5, rfl, h7⟩ := hx
  have hk := h7 p e R s m args below meth c hC H locs ls hI hL
  refine ww_aldq hC.1 hC.2.1 hC.2.2.2.2.2.2.2.2.1 hI t h3 h2 (vp_in_nI h4 h5) hd ?_
  rw [nI_clamp (Nat.lt_trans h4 h5)]
  exact hk
/-- into a row of E: null, or an object of one of the classes cs -/
def zaast (tys : List (ClassId × FieldType)) (E : String) (cs : List Nat) : zP → zP := fun P d K N μ pc L st w k n Q => ∃ (a j : Nat) (v : Value) (x : Option Nat) (r : List Value) (t : Nat) (cA : ClassId) (NA : Nat) (f : Nat → Option Nat), st = v :: .int (nI j) :: .ref a :: r ∧ zrf v = some x ∧ tys[t]? = some (cA, .object E) ∧ w a = some (.inl (cA, NA, .inr (.inr (.inr (.inr f))))) ∧ j < NA ∧ NA < 2 ^ 31 ∧ (∀ b : Nat, x = some b → ∃ ci ∈ cs, ∃ fs : List Value, w b = some (.inr (ci, fs))) ∧ P d K N μ (pc + 1) L r (va_up w a (some (.inl (cA, NA, .inr (.inr (.inr (.inr (va_up f j x)))))))) k n Q
theorem zaast_mono (tys : List (ClassId × FieldType)) (E : String) (cs : List Nat) : zMono (zaast tys E cs) := fun _ _ h _ _ _ _ _ _ _ _ _ _ _ ⟨a, j, v, x, r, t, cA, NA, f, h1, h2, h3, h4, h5, h6, h7, h8⟩ => ⟨a, j, v, x, r, t, cA, NA, f, h1, h2, h3, h4, h5, h6, h7, h _ _ _ _ _ _ _ _ _ _ _ h8⟩
theorem zaast_ok {E : String} {cs : List Nat} (hd : decode (mt μ).2.1 pc = .ok (.aastore, 1)) (hcs : ∀ ci ∈ cs, ∃ r : vw_C, cl[ci]? = some r ∧ (r.1 = E ∨ Cond.castable r.1 E ∈ nst)) : zS l mt big nst D cl tys b0 μ pc (zaast tys E cs) := by
  intro d K N L st w k n Q hx p e R s m args below meth c hC H locs ls hI hL
  obtain ⟨a, j, v, x, r, t, cA, NA, f, rfl, hv, h2, h3, h4, h5, h6, h7⟩ := hx
  have hK := hC.2.2.2.2.2.2.2.2.1
  cases x with
  | none =>
    rw [zrf_rf hv]
    refine ww_astqN hC.1 hC.2.1 hK hI t h3 h2 (vp_in_nI h4 h5) hd (fun H1 locs1 hI1 => ?_)
    rw [nI_clamp (Nat.lt_trans h4 h5)] at hI1
    exact h7 p e R s m args below meth c hC H1 locs1 ls hI1 hL
  | some b =>
    rw [zrf_rf hv]
    obtain ⟨ci, hci, fs, hb⟩ := h6 b rfl
    obtain ⟨q, hq, ho⟩ := hcs ci hci
    have hany : va_Any E s H b := by
      rcases ho with ho | ho
      · refine va_rAny (q0 := 0) hK (ww_one (hI.1 _ _ hb).1) rfl hq (fun comp c0 g1 g2 => ?_)
        rw [ho, g1] at g2
        cases g2
        have hK1 := (hK.1 ci q hq).2
        have e1 : comp = D.1 ci := Option.some.inj (g1.symm.trans (by rw [← ho]; exact hK1.1))
        rw [e1]
        exact va_assign hK1
      · exact ww_any hK hI hb hq (hC.2.2.2.2.2.2.2.2.2.2.2.2.2 _ ho)
    refine ww_astq hC.1 hC.2.1 hK hI t h3 h2 hany (vp_in_nI h4 h5) hd (fun H1 locs1 hI1 => ?_)
    rw [nI_clamp (Nat.lt_trans h4 h5)] at hI1
    exact h7 p e R s m args below meth c hC H1 locs1 ls hI1 hL
def znewi (tys : List (ClassId × FieldType)) : zP → zP := fun P d K N μ pc L st w k n Q => ∃ (j : Nat) (r : List Value) (t : Nat) (cA : ClassId), st = .int (nI j) :: r ∧ tys[t]? = some (cA, .int) ∧ j < 2 ^ 20 ∧ k + 1 ≤ K ∧ n + j ≤ N ∧ ∀ q : Nat, w q = none → P d K N μ (pc + 2) L (.ref q :: r) (va_up w q (some (.inl (cA, j, .inl (fun _ => 0))))) (k + 1) (n + j) Q
theorem znewi_mono (tys : List (ClassId × FieldType)) : zMono (znewi tys) := fun _ _ h _ _ _ _ _ _ _ _ _ _ _ ⟨j, r, t, cA, h1, h2, h3, h4, h5, h6⟩ => ⟨j, r, t, cA, h1, h2, h3, h4, h5, fun q hq => h _ _ _ _ _ _ _ _ _ _ _ (h6 q hq)⟩
theorem znewi_ok (hd : decode (mt μ).2.1 pc = .ok (.newarray .int, 2)) (ha : Cond.arrayClass (newarray.typeOf .int) ∈ big) : zS l mt big nst D cl tys b0 μ pc (znewi tys) := by
  intro d K N L st w k n Q hx p e R s m args below meth c hC H locs ls hI hL
  obtain ⟨j, r, t, cA, rfl, h2, h3, h4, h5, h6⟩ := hx
  exact ww_newi hC.1 hC.2.1 (hC.2.2.2.2.1 _ ha) hC.2.2.2.2.2.2.2.2.1 hI t h2 (nI_pos (by omega)) (nI_clamp (by omega)) (by omega) (Nat.le_trans h4 hC.2.2.2.2.2.2.2.2.2.2.2.1) (Nat.le_trans h5 hC.2.2.2.2.2.2.2.2.2.2.2.2.1) hd (fun q H1 hq hI1 => h6 q hq p e R s m args below meth c hC H1 locs ls hI1 hL)
def znewl (tys : List (ClassId × FieldType)) : zP → zP := fun P d K N μ pc L st w k n Q => ∃ (j : Nat) (r : List Value) (t : Nat) (cA : ClassId), st = .int (nI j) :: r ∧ tys[t]? = some (cA, .long) ∧ j < 2 ^ 20 ∧ k + 1 ≤ K ∧ n + j ≤ N ∧ ∀ q : Nat, w q = none → P d K N μ (pc + 2) L (.ref q :: r) (va_up w q (some (.inl (cA, j, .inr (.inl (fun _ => 0)))))) (k + 1) (n + j) Q
theorem znewl_mono (tys : List (ClassId × FieldType)) : zMono (znewl tys) := fun _ _ h _ _ _ _ _ _ _ _ _ _ _ ⟨j, r, t, cA, h1, h2, h3, h4, h5, h6⟩ => ⟨j, r, t, cA, h1, h2, h3, h4, h5, fun q hq => h _ _ _ _ _ _ _ _ _ _ _ (h6 q hq)⟩
theorem znewl_ok (hd : decode (mt μ).2.1 pc = .ok (.newarray .long, 2)) (ha : Cond.arrayClass (newarray.typeOf .long) ∈ big) : zS l mt big nst D cl tys b0 μ pc (znewl tys) := by
  intro d K N L st w k n Q hx p e R s m args below meth c hC H locs ls hI hL
  obtain ⟨j, r, t, cA, rfl, h2, h3, h4, h5, h6⟩ := hx
  exact ww_newl hC.1 hC.2.1 (hC.2.2.2.2.1 _ ha) hC.2.2.2.2.2.2.2.2.1 hI t h2 (nI_pos (by omega)) (nI_clamp (by omega)) (by omega) (Nat.le_trans h4 hC.2.2.2.2.2.2.2.2.2.2.2.1) (Nat.le_trans h5 hC.2.2.2.2.2.2.2.2.2.2.2.2.1) hd (fun q H1 hq hI1 => h6 q hq p e R s m args below meth c hC H1 locs ls hI1 hL)
def znewq (tys : List (ClassId × FieldType)) (C : String) : zP → zP := fun P d K N μ pc L st w k n Q => ∃ (j : Nat) (r : List Value) (t : Nat) (cA : ClassId), st = .int (nI j) :: r ∧ tys[t]? = some (cA, .object C) ∧ j < 2 ^ 20 ∧ k + 1 ≤ K ∧ n + j ≤ N ∧ ∀ q : Nat, w q = none → P d K N μ (pc + 3) L (.ref q :: r) (va_up w q (some (.inl (cA, j, .inr (.inr (.inr (.inr (fun _ => none)))))))) (k + 1) (n + j) Q
theorem znewq_mono (tys : List (ClassId × FieldType)) (C : String) : zMono (znewq tys C) := fun _ _ h _ _ _ _ _ _ _ _ _ _ _ ⟨j, r, t, cA, h1, h2, h3, h4, h5, h6⟩ => ⟨j, r, t, cA, h1, h2, h3, h4, h5, fun q hq => h _ _ _ _ _ _ _ _ _ _ _ (h6 q hq)⟩
theorem znewq_ok {C : String} {index : Nat} (hd : decode (mt μ).2.1 pc = .ok (.anewarray index, 3)) (hl : Cond.classLink (mt μ).1.cls index C ∈ big) (ha : Cond.arrayOver (.object C) ∈ nst) : zS l mt big nst D cl tys b0 μ pc (znewq tys C) := by
  intro d K N L st w k n Q hx p e R s m args below meth c hC H locs ls hI hL
  obtain ⟨j, r, t, cA, rfl, h2, h3, h4, h5, h6⟩ := hx
  exact ww_newq hC.1 hC.2.1 hC.2.2.2.2.2.1 (hC.2.2.2.2.1 _ hl) (va_AO.of (hC.2.2.2.2.2.2.2.2.2.2.2.2.2 _ ha)) hC.2.2.2.2.2.2.2.2.1 hI t h2 (nI_pos (by omega)) (nI_clamp (by omega)) (by omega) (Nat.le_trans h4 hC.2.2.2.2.2.2.2.2.2.2.2.1) (Nat.le_trans h5 hC.2.2.2.2.2.2.2.2.2.2.2.2.1) hd (fun q H1 hq hI1 => h6 q hq p e R s m args below meth c hC H1 locs ls hI1 hL)
/-! returns -/
def zQc (D : va_G) (cl : List vw_C) (tys : List (ClassId × FieldType)) (b0 : Nat) (Q : zQ) : Array Value → State → Outcome → State → Prop := fun _ st oc t =>
  (∃ (v : Option Value) (u : ww_W × Nat × Nat), oc = .returned v ∧ Q (.inl v) u.1 u.2.1 u.2.2 ∧ ww_B D cl tys b0 st.heap.size (ww_t st.heap) u t) ∧ va_F (ww_F b0) st t
theorem zQc_end {w : ww_W} {H : Heap} {locs : List Loc} {k n : Nat} {Q : zQ} {v : Option Value} {s t : State} {a : Array Value} (hK : va_K D cl tys s) (hI : ww_I D cl b0 w s.heap H locs) (k1 : H.size ≤ s.heap.size + k) (k2 : ww_t H ≤ ww_t s.heap + n) (hq : Q (.inl v) w k n) (ht : t.heap = H) (hW : s.WarmedH t.vm) : zQc D cl tys b0 Q a s (.returned v) t :=
  ⟨⟨v, (w, k, n), rfl, hq, ww_end hK hI k1 k2 ht hW⟩, hI.2.1.F ht⟩
theorem zMQ_of {below : List Frame} {Q : zQ} {a : Array Value} {s : State} {mc ms : Nat} (t : State) (h : MQ below (zQc D cl tys b0 Q) a s mc ms (ww_F b0) t) : zMQ D cl tys b0 below Q s mc ms t := by
  obtain ⟨o, h1, h2, ⟨⟨v, u, h3, h4, h5⟩, h6⟩, Ls, ⟨-, h7, h8⟩, h9⟩ := h
  exact ⟨o, h1, h2, ⟨⟨.inl v, u, Or.inl ⟨v, rfl, h3⟩, h4, h5⟩, h6⟩, Ls, ⟨h7, h8⟩, h9⟩
theorem zMQ_to {below : List Frame} {Q : zQ} {a : Array Value} {s : State} {mc ms : Nat} (hno : ∀ (x : Nat) (w : ww_W) (k n : Nat), ¬ Q (.inr x) w k n) (t : State) (h : zMQ D cl tys b0 below Q s mc ms t) : MQ below (zQc D cl tys b0 Q) a s mc ms (ww_F b0) t := by
  obtain ⟨o, h1, h2, ⟨⟨res, u, h3, h4, h5⟩, h6⟩, Ls, ⟨h7, h8⟩, h9⟩ := h
  rcases h3 with ⟨v, rfl, h3⟩ | ⟨x, rfl, h3⟩
  · exact ⟨o, h1, h2, ⟨⟨v, u, h3, h4, h5⟩, h6⟩, Ls, ⟨⟨v, h3⟩, h7, h8⟩, h9⟩
  · exact absurd h4 (hno _ _ _ _)
def zretI : zP → zP := fun _ _ K N _ _ _ st w k n Q => ∃ x : Int32, st = [.int x] ∧ k ≤ K ∧ n ≤ N ∧ Q (.inl (some (.int x))) w k n
theorem zretI_mono : zMono zretI := fun _ _ _ _ _ _ _ _ _ _ _ _ _ _ hx => hx
theorem zretI_ok (hd : decode (mt μ).2.1 pc = .ok (.ireturn, 1)) (hr : (mt μ).2.2.2 = some .int) : zS l mt big nst D cl tys b0 μ pc zretI := by
  intro d K N L st w k n Q hx p e R s m args below meth c hC H locs ls hI hL
  obtain ⟨x, rfl, h1, h2, h3⟩ := hx
  refine ww_know fun k1 k2 => W.widen h1 h2 (W_mono ?_ (zMQ_of (a := args)))
  exact W.iret hC.1 hC.2.1 (hC.2.2.2.1.trans hr) (fun t ht hW => zQc_end hC.2.2.2.2.2.2.2.2.1 hI k1 k2 h3 ht hW) hI.2.1.2.2 hd hC.2.2.2.2.2.2.1
def zretZ : zP → zP := fun _ _ K N _ _ _ st w k n Q => ∃ x : Int32, st = [.int x] ∧ (x = 0 ∨ x = 1) ∧ k ≤ K ∧ n ≤ N ∧ Q (.inl (some (.int x))) w k n
theorem zretZ_mono : zMono zretZ := fun _ _ _ _ _ _ _ _ _ _ _ _ _ _ hx => hx
theorem zretZ_ok (hd : decode (mt μ).2.1 pc = .ok (.ireturn, 1)) (hr : (mt μ).2.2.2 = some .boolean) : zS l mt big nst D cl tys b0 μ pc zretZ := by
  intro d K N L st w k n Q hx p e R s m args below meth c hC H locs ls hI hL
  obtain ⟨x, rfl, h0, h1, h2, h3⟩ := hx
  refine ww_know fun k1 k2 => W.widen h1 h2 (W_mono ?_ (zMQ_of (a := args)))
  exact W.zret hC.1 hC.2.1 (hC.2.2.2.1.trans hr) (by rcases h0 with rfl | rfl <;> rfl) (fun t ht hW => zQc_end hC.2.2.2.2.2.2.2.2.1 hI k1 k2 h3 ht hW) hI.2.1.2.2 hd hC.2.2.2.2.2.2.1
def zretA : zP → zP := fun _ _ K N _ _ _ st w k n Q => ∃ (v : Value) (r : Option Nat), st = [v] ∧ zrf v = some r ∧ k ≤ K ∧ n ≤ N ∧ Q (.inl (some v)) w k n
theorem zretA_mono : zMono zretA := fun _ _ _ _ _ _ _ _ _ _ _ _ _ _ hx => hx
theorem zretA_ok {rt : FieldType} (hd : decode (mt μ).2.1 pc = .ok (.areturn, 1)) (hr : (mt μ).2.2.2 = some rt) (hrt : (∃ n, rt = .object n) ∨ ∃ t, rt = .array t) : zS l mt big nst D cl tys b0 μ pc zretA := by
  intro d K N L st w k n Q hx p e R s m args below meth c hC H locs ls hI hL
  obtain ⟨v, r, rfl, h0, h1, h2, h3⟩ := hx
  have hv : v = va_rf r := zrf_rf h0
  refine ww_know fun k1 k2 => W.widen h1 h2 (W_mono ?_ (zMQ_of (a := args)))
  exact W.aret hC.1 hC.2.1 (hC.2.2.2.1.trans hr) hrt (by rw [hv]; exact va_rf_or r) (fun t ht hW => zQc_end hC.2.2.2.2.2.2.2.2.1 hI k1 k2 h3 ht hW) hI.2.1.2.2 hd hC.2.2.2.2.2.2.1
def zretV : zP → zP := fun _ _ K N _ _ _ st w k n Q => st = [] ∧ k ≤ K ∧ n ≤ N ∧ Q (.inl none) w k n
theorem zretV_mono : zMono zretV := fun _ _ _ _ _ _ _ _ _ _ _ _ _ _ hx => hx
theorem zretV_ok (hd : decode (mt μ).2.1 pc = .ok (.return_, 1)) (hr : (mt μ).2.2.2 = none) : zS l mt big nst D cl tys b0 μ pc zretV := by
  intro d K N L st w k n Q hx p e R s m args below meth c hC H locs ls hI hL
  obtain ⟨rfl, h1, h2, h3⟩ := hx
  refine ww_know fun k1 k2 => W.widen h1 h2 (W_mono ?_ (zMQ_of (a := args)))
  exact W.vret hC.1 hC.2.1 (hC.2.2.2.1.trans hr) (fun t ht hW => zQc_end hC.2.2.2.2.2.2.2.2.1 hI k1 k2 h3 ht hW) hI.2.1.2.2 hd hC.2.2.2.2.2.2.1
end ZJ
end
section
/-! calls -/
def zarg : List Value → zV
  | [] => []
  | v :: vs => if v.category = 2 then some v :: none :: zarg vs else some v :: zarg vs
def zargs (nL : Nat) (As : List Value) : zV := zarg As ++ List.replicate (nL - (zarg As).length) none
theorem zarg_len : ∀ As : List Value, (zarg As).length = (lg_sl As).length
  | [] => rfl
  | v :: vs => by
    have ih := zarg_len vs
    simp only [zarg, lg_sl, List.flatMap_cons, List.length_append] at ih ⊢
    by_cases hv : v.category = 2
    · simp [hv, ih]; omega
    · simp [hv, ih]; omega
theorem zarg_at : ∀ (As : List Value) (i0 j : Nat) (v : Value), (zarg As)[j]? = some (some v) → (i0 + j, v) ∈ lv_args i0 As
  | [], i0, j, v, h => by simp [zarg] at h
  | u :: vs, i0, j, v, h => by
    by_cases hu : u.category = 2
    · simp only [zarg, hu, if_true] at h
      cases j with
      | zero =>
        simp at h
        subst h
        exact List.mem_cons_self
      | succ j =>
        cases j with
        | zero => simp at h
        | succ j =>
          have := zarg_at vs (i0 + 2) j v (by simpa using h)
          refine List.mem_cons_of_mem _ ?_
          rw [if_pos hu, show i0 + (j + 1 + 1) = i0 + 2 + j by omega]
          exact this
    · simp only [zarg, hu, if_false] at h
      cases j with
      | zero =>
        simp at h
        subst h
        exact List.mem_cons_self
      | succ j =>
        have := zarg_at vs (i0 + 1) j v (by simpa using h)
        refine List.mem_cons_of_mem _ ?_
        rw [if_neg hu, show i0 + (j + 1) = i0 + 1 + j by omega]
        exact this
theorem zargs_has {ls : Array Slot} {nL : Nat} {As : List Value} (hn : (lg_sl As).length ≤ nL) (h : lv_has ls nL (lv_args 0 As)) : zH ls nL (zargs nL As) := by
  refine ⟨?_, _, h, fun i v hi => ?_⟩
  · unfold zargs
    rw [List.length_append, List.length_replicate, zarg_len]
    omega
  · unfold zargs at hi
    by_cases hl : i < (zarg As).length
    · rw [List.getElem?_append_left hl] at hi
      have := zarg_at As 0 i v hi
      simpa using this
    · rw [List.getElem?_append_right (by omega), List.getElem?_replicate] at hi
      split at hi <;> simp at hi
section ZK
variable {l : Launch} {mt : zMt} {big nst : List Cond} {D : va_G} {cl : List vw_C} {tys : List (ClassId × FieldType)} {b0 : Nat}
abbrev zrm (d K N : Nat) : Room := { frames := d, cells := K, slots := N, locals := 64 * d }
abbrev zws (mt : zMt) (big : List Cond) (μ : Nat) : List Cond := .code (mt μ).1 (mt μ).2.1 (mt μ).2.2.1 (mt μ).2.2.2 :: big
theorem zM.met {d K N μ : Nat} {As : List Value} {w : ww_W} {Q : zQ} {sz tt : Nat} (hno : ∀ (x : Nat) (w : ww_W) (k n : Nat), ¬ Q (.inr x) w k n) (hy : plainFor (mt μ).1 = true) (hn : (lg_sl As).length ≤ (mt μ).2.2.1) (hM : zM l mt big nst D cl tys b0 d K N μ 0 (zargs (mt μ).2.2.1 As) [] w 0 0 Q) :
    Met l (mt μ).1 (zws mt big μ) (zrm d K N) (va_Pc As (ww_P nst D cl tys b0 w sz tt)) (zQc D cl tys b0 Q) K N (ww_F b0) :=
  ww_met hy hn (fun p e s m below meth c h1 h2 h3 h4 h5 h6 h7 h8 h9 h10 _ _ hN ls hl => W_mono (hM p e (zrm d K N) s m As.toArray below meth c ⟨h1, h2, h3, h4, h5, h6, h7, h8, h9, Nat.le_refl _, Nat.le_refl _, Nat.le_refl _, Nat.le_refl _, hN⟩ s.heap [] ls h10 (zargs_has hn hl)) (zMQ_to hno))
theorem z_call {p : Program} {e : Env} {R : Room} {s : State} {m : MethodId} {args : Array Value} {below : List Frame} {meth : Method} {c : Code} {H : Heap} {locs : List Loc} {k n K' N' : Nat} {Qf : State → Prop} {pc : Nat} {ls : Array Slot} {st0 rest : List Value} {a : Array Value} {Q' : zQ} {w : ww_W} (hI : ww_I D cl b0 w s.heap H locs)
    (hr : va_Run p l e R s m args below meth c H locs k n K' N' (F0 m pc ls st0) rest (zQc D cl tys b0 Q' a) (ww_F b0))
    (kk : ∀ (v : Option Value) (w' : ww_W) (k' n' : Nat) (H1 : Heap) (locs1 : List Loc), Q' (.inl v) w' k' n' → ww_I D cl b0 w' s.heap H1 locs1 → W p l e R s m args below meth c H1 locs1 (k + k') (n + n') Qf (F0 m (pc + 3) ls (v.toList ++ rest))) : W p l e R s m args below meth c H locs k n Qf (F0 m pc ls st0) := by
  refine ww_know fun k1 k2 => ?_
  intro T hT X
  obtain ⟨v, st₀, t, T', Ls, h0, X', hL, e1, e2, ⟨⟨v', u, hv, hq, hB⟩, hz, hk⟩, st⟩ := hr T hT X
  cases hv
  rw [h0] at hz hk hB
  have hI' : ww_I D cl b0 u.1 s.heap T'.heap (locs ++ Ls) := by
    refine ⟨by rw [e1]; exact hB.1.1, ⟨by rw [e1]; exact Nat.le_trans hI.2.1.1 hz, fun q g1 g2 => ?_, fun q hq => ?_⟩, hI.2.2⟩
    · rw [e1, hk q (Nat.lt_of_lt_of_le g1 hI.2.1.1) g2]
      exact hI.2.1.2.1 q g1 g2
    · rcases List.mem_append.mp hq with h | h
      · exact hI.2.1.2.2 q h
      · exact hL q h
  have hb1 : T'.heap.size ≤ H.size + u.2.1 := by rw [e1]; exact hB.2.1
  have hb2 : ww_t T'.heap ≤ ww_t H + u.2.2 := by rw [e1]; exact hB.2.2
  obtain ⟨t2, a1, b1⟩ := (ww_tight (cells := k + K') (slots := n + N') (show T'.heap.size ≤ s.heap.size + (k + u.2.1) by omega) (show ww_t T'.heap ≤ ww_t s.heap + (n + u.2.2) by omega) (kk v u.1 u.2.1 u.2.2 T'.heap (locs ++ Ls) hq hI')) T' rfl X'
  exact ⟨t2, st t2 a1, b1⟩
/-- the callee at its entry, and what is said behind it -/
def zgo (nL' μ' : Nat) (As rest : List Value) : zP → zP := fun P d K N μ pc L _ w k n Q => ∃ (d' K' N' : Nat) (Q' : zQ), d' + 1 ≤ d ∧ k + K' ≤ K ∧ n + N' ≤ N ∧ P d' K' N' μ' 0 (zargs nL' As) [] w 0 0 Q' ∧ (∀ (x : Nat) (w : ww_W) (k n : Nat), ¬ Q' (.inr x) w k n) ∧ ∀ (v : Option Value) (w' : ww_W) (k' n' : Nat), Q' (.inl v) w' k' n' → P d K N μ (pc + 3) L (v.toList ++ rest) w' (k + k') (n + n') Q
theorem zgo_mono (nL' μ' : Nat) (As rest : List Value) : zMono (zgo nL' μ' As rest) := fun _ _ h _ _ _ _ _ _ _ _ _ _ _ ⟨d', K', N', Q', h1, h2, h3, h4, hno, h5⟩ => ⟨d', K', N', Q', h1, h2, h3, h _ _ _ _ _ _ _ _ _ _ _ h4, hno, fun v w' k' n' hq => h _ _ _ _ _ _ _ _ _ _ _ (h5 v w' k' n' hq)⟩
/-- a static method: na arguments -/
def zcS (nL' μ' na : Nat) : zP → zP := fun P d K N μ pc L st w k n Q => ∃ As rest : List Value, st = As.reverse ++ rest ∧ As.length = na ∧ (lg_sl As).length ≤ nL' ∧ (rest.map fun v => v.category).sum ≤ 8 ∧ zgo nL' μ' As rest P d K N μ pc L st w k n Q
theorem zcS_mono (nL' μ' na : Nat) : zMono (zcS nL' μ' na) := fun P P' h d K N μ pc L st w k n Q ⟨As, rest, h1, h2, h3, h4, h5⟩ => ⟨As, rest, h1, h2, h3, h4, zgo_mono nL' μ' As rest P P' h d K N μ pc L st w k n Q h5⟩
theorem zcS_ok (hst : ww_st nst) {μ pc μ' na index : Nat} (hd : decode (mt μ).2.1 pc = .ok (.invokestatic index, 3)) (hy : plainFor (mt μ').1 = true) (hg : GoodIn big (va_wsS (mt μ).1.cls index (mt μ').1 (zws mt big μ'))) (hds : (mt μ').1.cls ≠ "java/lang/invoke/MethodHandle" ∧ (mt μ').1.cls ≠ "java/lang/invoke/VarHandle" ∧ (parseMethodDescriptor (mt μ').1.desc).map (fun d => d.parameters.length) = some na) (hmax : (mt μ').2.2.1 ≤ 45) : zS l mt big nst D cl tys b0 μ pc (zcS (mt μ').2.2.1 μ' na) := by
  intro d K N L st w k n Q hx p e R s m args below meth c hC H locs ls hI hL
  obtain ⟨As, rest, rfl, h2, h3, h4, d', K', N', Q', g1, g2, g3, g4, hno, g5⟩ := hx
  obtain ⟨hx, hb, hml, hr, hts, hown, hlk, hnm, hK, hd1, hd2, hd3, hd4, hN⟩ := id hC
  have hsz : ls.size = (mt μ).2.2.1 := by obtain ⟨-, lv, q1, -⟩ := hL; exact q1.1
  refine z_call hI (va_runS (As := As) (rest := rest) ⟨hx, hb, hml, hown, hts⟩ (g4.met hno hy h3) (va_cwS na hts hg rfl rfl rfl hds ⟨by show d' + 1 ≤ R.frames; omega, by show 8 + ((mt μ').2.2.1 + 11) + 64 * d' ≤ R.locals; omega⟩) (ww_preS hst hN hK hI) rfl h2 hsz rfl (lv_room h4) hd ⟨by omega, by omega⟩) (fun v w' k' n' H1 locs1 hq hI1 => g5 v w' k' n' hq p e R s m args below meth c hC H1 locs1 ls hI1 hL)
/-- a constructor -/
def zcI (nL' μ' na : Nat) : zP → zP := fun P d K N μ pc L st w k n Q => ∃ (b : Nat) (As rest : List Value), st = As.reverse ++ .ref b :: rest ∧ As.length = na ∧ (lg_sl (.ref b :: As)).length ≤ nL' ∧ (rest.map fun v => v.category).sum ≤ 8 ∧ zgo nL' μ' (.ref b :: As) rest P d K N μ pc L st w k n Q
theorem zcI_mono (nL' μ' na : Nat) : zMono (zcI nL' μ' na) := fun P P' h d K N μ pc L st w k n Q ⟨b, As, rest, h1, h2, h3, h4, h5⟩ => ⟨b, As, rest, h1, h2, h3, h4, zgo_mono nL' μ' (.ref b :: As) rest P P' h d K N μ pc L st w k n Q h5⟩
theorem zcI_ok (hst : ww_st nst) {μ pc μ' na index : Nat} (hd : decode (mt μ).2.1 pc = .ok (.invokespecial index, 3)) (hy : plainFor (mt μ').1 = true) (hret : (mt μ').2.2.2 = none) (hin : (mt μ').1.name = "<init>") (hg : GoodIn big (zws mt big μ')) (h1 : Cond.initialized (mt μ').1.cls ∈ big) (h2 : Cond.methodLink (mt μ).1.cls index (mt μ').1 ∈ big) (h3 : Cond.instanceMethod (mt μ').1 ∈ big) (hds : (mt μ').1.cls ≠ "java/lang/invoke/MethodHandle" ∧ (mt μ').1.cls ≠ "java/lang/invoke/VarHandle" ∧ (parseMethodDescriptor (mt μ').1.desc).map (fun d => d.parameters.length) = some na) (hmax : (mt μ').2.2.1 ≤ 45) : zS l mt big nst D cl tys b0 μ pc (zcI (mt μ').2.2.1 μ' na) := by
  intro d K N L st w k n Q hx p e R s m args below meth c hC H locs ls hI hL
  obtain ⟨b, As, rest, rfl, q2, q3, q4, d', K', N', Q', g1, g2, g3, g4, hno, g5⟩ := hx
  obtain ⟨hx, hb, hml, hr, hts, hown, hlk, hnm, hK, hd1, hd2, hd3, hd4, hN⟩ := id hC
  have hsz : ls.size = (mt μ).2.2.1 := by obtain ⟨-, lv, q1, -⟩ := hL; exact q1.1
  refine z_call hI (va_runI (As := As) (rest := rest) (bytes := (mt μ').2.1) (maxL := (mt μ').2.2.1) ⟨hx, hb, hml, hown, hts⟩ (g4.met hno hy q3) (cwI na hts hg (by unfold zws; rw [hret]) rfl rfl (hts _ h1) (hts _ h2) (hts _ h3) hin hds ⟨by show d' + 1 ≤ R.frames; omega, by show 8 + ((mt μ').2.2.1 + 11) + 64 * d' ≤ R.locals; omega⟩) (ww_preS hst hN hK hI) rfl q2 hsz rfl (lv_room q4) hd ⟨by omega, by omega⟩) (fun v w' k' n' H1 locs1 hq hI1 => g5 v w' k' n' hq p e R s m args below meth c hC H1 locs1 ls hI1 hL)
/-- a method of the receiver's own class (ci) -/
def zcV (nL' μ' na ci : Nat) : zP → zP := fun P d K N μ pc L st w k n Q => ∃ (b : Nat) (As rest fs : List Value), st = As.reverse ++ .ref b :: rest ∧ As.length = na ∧ (lg_sl (.ref b :: As)).length ≤ nL' ∧ (rest.map fun v => v.category).sum ≤ 8 ∧ w b = some (.inr (ci, fs)) ∧ zgo nL' μ' (.ref b :: As) rest P d K N μ pc L st w k n Q
theorem zcV_mono (nL' μ' na ci : Nat) : zMono (zcV nL' μ' na ci) := fun P P' h d K N μ pc L st w k n Q ⟨b, As, rest, fs, h1, h2, h3, h4, h5, h6⟩ => ⟨b, As, rest, fs, h1, h2, h3, h4, h5, zgo_mono nL' μ' (.ref b :: As) rest P P' h d K N μ pc L st w k n Q h6⟩
theorem zcV_ok (hst : ww_st nst) {μ pc μ' na ci index : Nat} {q : vw_C} (hd : decode (mt μ).2.1 pc = .ok (.invokevirtual index, 3)) (hy : plainFor (mt μ').1 = true) (hc : cl[ci]? = some q) (hg : GoodIn big (wsV (mt μ).1.cls index q.1 (mt μ').1 (zws mt big μ'))) (hds : (mt μ').1.cls = q.1 ∧ (mt μ').1.cls ≠ "java/lang/invoke/MethodHandle" ∧ (mt μ').1.cls ≠ "java/lang/invoke/VarHandle" ∧ (parseMethodDescriptor (mt μ').1.desc).map (fun d => d.parameters.length) = some na) (hmax : (mt μ').2.2.1 ≤ 45) : zS l mt big nst D cl tys b0 μ pc (zcV (mt μ').2.2.1 μ' na ci) := by
  intro d K N L st w k n Q hx p e R s m args below meth c hC H locs ls hI hL
  obtain ⟨b, As, rest, fs, rfl, q2, q3, q4, q5, d', K', N', Q', g1, g2, g3, g4, hno, g5⟩ := hx
  obtain ⟨hx, hb, hml, hr, hts, hown, hlk, hnm, hK, hd1, hd2, hd3, hd4, hN⟩ := id hC
  have hsz : ls.size = (mt μ).2.2.1 := by obtain ⟨-, lv, q1, -⟩ := hL; exact q1.1
  refine z_call hI (va_runV (As := As) (rest := rest) ⟨hx, hb, hml, hown, hts⟩ (g4.met hno hy q3) (cwV na hts hg rfl rfl rfl hds ⟨by show d' + 1 ≤ R.frames; omega, by show 8 + ((mt μ').2.2.1 + 11) + 64 * d' ≤ R.locals; omega⟩) (ww_preV hst hN hK hI hc q5) rfl q2 hsz rfl (lv_room q4) hd ⟨by omega, by omega⟩) (fun v w' k' n' H1 locs1 hq hI1 => g5 v w' k' n' hq p e R s m args below meth c hC H1 locs1 ls hI1 hL)
/-- Object's constructor -/
def zobj : zP → zP := fun P d K N μ pc L st w k n Q => ∃ (a : Nat) (r : List Value), st = .ref a :: r ∧ (r.map fun v => v.category).sum ≤ 8 ∧ 1 ≤ d ∧ P d K N μ (pc + 3) L r w k n Q
theorem zobj_mono : zMono zobj := fun _ _ h _ _ _ _ _ _ _ _ _ _ _ ⟨a, r, h1, h2, h3, h4⟩ => ⟨a, r, h1, h2, h3, h _ _ _ _ _ _ _ _ _ _ _ h4⟩
theorem zobj_ok {μ pc idx : Nat} (hd : decode (mt μ).2.1 pc = .ok (.invokespecial idx, 3)) (h1 : Cond.methodLink (mt μ).1.cls idx objectInit ∈ big) (h2 : Cond.instanceMethod objectInit ∈ big) (h3 : Cond.code objectInit ⟨#[0xb1]⟩ 1 none ∈ big) : zS l mt big nst D cl tys b0 μ pc zobj := by
  intro d K N L st w k n Q hx p e R s m args below meth c hC H locs ls hI hL
  obtain ⟨a, r, rfl, q2, q3, q4⟩ := hx
  obtain ⟨hx, hb, hml, hr, hts, hown, hlk, hnm, hK, hd1, hd2, hd3, hd4, hN⟩ := id hC
  have hsz : ls.size = (mt μ).2.2.1 := by obtain ⟨-, lv, q1, -⟩ := hL; exact q1.1
  exact W.objInit hx hb hown (hts _ h1) (hts _ h2) (hts _ h3) rfl (by rw [hml]; exact hsz) rfl hd (by omega) (by show 2 * 0 + _ + 12 ≤ R.locals; omega) (q4 p e R s m args below meth c hC H locs ls hI hL)
end ZK
section ZK2
variable {l : Launch} {mt : zMt} {big nst : List Cond} {D : va_G} {cl : List vw_C} {tys : List (ClassId × FieldType)} {b0 : Nat}
/-- a private static of a nest mate -/
theorem zcSN_ok (hst : ww_st nst) {μ pc μ' na index : Nat} {host : String} (hd : decode (mt μ).2.1 pc = .ok (.invokestatic index, 3)) (hy : plainFor (mt μ').1 = true) (hg : GoodIn big (zws mt big μ')) (h0 : Cond.methodLinkNest (mt μ).1.cls index (mt μ').1 host ∈ nst) (h1 : Cond.initialized (mt μ').1.cls ∈ big) (h2 : Cond.static (mt μ').1 ∈ big) (hds : (mt μ').1.cls ≠ "java/lang/invoke/MethodHandle" ∧ (mt μ').1.cls ≠ "java/lang/invoke/VarHandle" ∧ (parseMethodDescriptor (mt μ').1.desc).map (fun d => d.parameters.length) = some na) (hmax : (mt μ').2.2.1 ≤ 45) : zS l mt big nst D cl tys b0 μ pc (zcS (mt μ').2.2.1 μ' na) := by
  intro d K N L st w k n Q hx p e R s m args below meth c hC H locs ls hI hL
  obtain ⟨As, rest, rfl, q2, q3, q4, d', K', N', Q', g1, g2, g3, g4, hno, g5⟩ := hx
  obtain ⟨hx, hb, hml, hr, hts, hown, hlk, hnm, hK, hd1, hd2, hd3, hd4, hN⟩ := id hC
  have hsz : ls.size = (mt μ).2.2.1 := by obtain ⟨-, lv, q1, -⟩ := hL; exact q1.1
  refine z_call hI (va_runSN (As := As) (rest := rest) ⟨hx, hb, hml, hown, hts⟩ (g4.met hno hy q3) ⟨va_cnB na hts hg rfl rfl rfl (hN _ h0) (hts _ h1) hds ⟨by show d' + 1 ≤ R.frames; omega, by show 8 + ((mt μ').2.2.1 + 11) + 64 * d' ≤ R.locals; omega⟩, hts _ h2, trivial⟩ (ww_preS hst hN hK hI) rfl q2 hsz rfl (lv_room q4) hd ⟨by omega, by omega⟩) (fun v w' k' n' H1 locs1 hq hI1 => g5 v w' k' n' hq p e R s m args below meth c hC H1 locs1 ls hI1 hL)
/-- a private constructor of a nest mate -/
theorem zcIN_ok (hst : ww_st nst) {μ pc μ' na index : Nat} {host : String} (hd : decode (mt μ).2.1 pc = .ok (.invokespecial index, 3)) (hy : plainFor (mt μ').1 = true) (hret : (mt μ').2.2.2 = none) (hin : (mt μ').1.name = "<init>") (hg : GoodIn big (zws mt big μ')) (h0 : Cond.methodLinkNest (mt μ).1.cls index (mt μ').1 host ∈ nst) (h1 : Cond.initialized (mt μ').1.cls ∈ big) (h2 : Cond.instanceMethod (mt μ').1 ∈ big) (hds : (mt μ').1.cls ≠ "java/lang/invoke/MethodHandle" ∧ (mt μ').1.cls ≠ "java/lang/invoke/VarHandle" ∧ (parseMethodDescriptor (mt μ').1.desc).map (fun d => d.parameters.length) = some na) (hmax : (mt μ').2.2.1 ≤ 45) : zS l mt big nst D cl tys b0 μ pc (zcI (mt μ').2.2.1 μ' na) := by
  intro d K N L st w k n Q hx p e R s m args below meth c hC H locs ls hI hL
  obtain ⟨b, As, rest, rfl, q2, q3, q4, d', K', N', Q', g1, g2, g3, g4, hno, g5⟩ := hx
  obtain ⟨hx, hb, hml, hr, hts, hown, hlk, hnm, hK, hd1, hd2, hd3, hd4, hN⟩ := id hC
  have hsz : ls.size = (mt μ).2.2.1 := by obtain ⟨-, lv, q1, -⟩ := hL; exact q1.1
  refine z_call hI (va_runIN (As := As) (rest := rest) (bytes := (mt μ').2.1) (maxL := (mt μ').2.2.1) ⟨hx, hb, hml, hown, hts⟩ (g4.met hno hy q3) ⟨va_cnB na hts hg (by unfold zws; rw [hret]) rfl rfl (hN _ h0) (hts _ h1) hds ⟨by show d' + 1 ≤ R.frames; omega, by show 8 + ((mt μ').2.2.1 + 11) + 64 * d' ≤ R.locals; omega⟩, hin, hts _ h2⟩ (ww_preS hst hN hK hI) rfl q2 hsz rfl (lv_room q4) hd ⟨by omega, by omega⟩) (fun v w' k' n' H1 locs1 hq hI1 => g5 v w' k' n' hq p e R s m args below meth c hC H1 locs1 ls hI1 hL)
end ZK2
end
section
/-! more steps: longs, rows of booleans, casts, an overridden method -/
section ZG2
variable {big : List Cond} {own : String} {cc : ByteArray} {nL pc : Nat}
theorem zg_land (hd : decode cc pc = .ok (.land, 1)) : zg big own cc nL pc 1 (gLL (fun x y => x &&& y)) := by
  intro p l e R s m args below meth c H locs k n Qf ls L st L' st' hx hb hw hown hL hg kk
  unfold gLL at hg
  split at hg
  · cases hg; exact lv_land hx hb hd (kk ls hL)
  · cases hg
/-- a shift of a long by an int -/
def gLI (f : Int64 → Int32 → Int64) : zV → List Value → Option (zV × List Value) := fun L st => match st with
  | .int y :: .long x :: r => some (L, .long (f x y) :: r)
  | _ => none
theorem zg_lshl (hd : decode cc pc = .ok (.lshl, 1)) : zg big own cc nL pc 1 (gLI (fun x y => x <<< (y.toInt64 &&& 63))) := by
  intro p l e R s m args below meth c H locs k n Qf ls L st L' st' hx hb hw hown hL hg kk
  unfold gLI at hg
  split at hg
  · cases hg; exact lv_lshl hx hb hd rfl (kk ls hL)
  · cases hg
theorem zg_lshr (hd : decode cc pc = .ok (.lshr, 1)) : zg big own cc nL pc 1 (gLI (fun x y => x >>> (y.toInt64 &&& 63))) := by
  intro p l e R s m args below meth c H locs k n Qf ls L st L' st' hx hb hw hown hL hg kk
  unfold gLI at hg
  split at hg
  · cases hg; exact lv_lshr hx hb hd rfl (kk ls hL)
  · cases hg
end ZG2
section WW5
variable {p : Program} {l : Launch} {e : Env} {R : Room} {s : State} {m : MethodId} {args : Array Value} {below : List Frame} {meth : Method} {c : Code} {H : Heap} {locs : List Loc} {cells slots : Nat} {Q : State → Prop}
variable {cc : ByteArray} {pc : Nat} {ls : Array Slot} {rest : List Value} {D : va_G} {cl : List vw_C} {b0 : Nat} {a : Nat} {tys : List (ClassId × FieldType)} {w : ww_W} {H0 : Heap}
theorem ww_zald (hexec : p.tables.exec = Jvm.exec) (hb : c.code = cc) (hK : va_K D cl tys s) (hI : ww_I D cl b0 w H0 H locs) (t0 : Nat) {cA : ClassId} {n : Nat} {f : Nat → Int32} (ha : w a = some (.inl (cA, n, .inl f))) (ht : tys[t0]? = some (cA, .boolean)) {i : Int32} (hin : vp_in i n) (hdg : decode cc pc = .ok (.baload, 1))
    (kk : W p l e R s m args below meth c H locs cells slots Q (F0 m (pc + 1) ls (.int (f i.toNatClampNeg) :: rest))) : W p l e R s m args below meth c H locs cells slots Q (F0 m pc ls (.int i :: .ref a :: rest)) :=
  va_zald hexec hb hK (ww_one (hI.1 _ _ ha).1) 0 t0 rfl ht hin hdg kk
theorem ww_zast (hexec : p.tables.exec = Jvm.exec) (hb : c.code = cc) (hK : va_K D cl tys s) (hI : ww_I D cl b0 w H0 H locs) (t0 : Nat) {cA : ClassId} {n : Nat} {f : Nat → Int32} (ha : w a = some (.inl (cA, n, .inl f))) (ht : tys[t0]? = some (cA, .boolean)) {i : Int32} {x : Int32} (hin : vp_in i n) (hdg : decode cc pc = .ok (.bastore, 1))
    (kk : ∀ (H1 : Heap) (locs1 : List Loc), ww_I D cl b0 (va_up w a (some (.inl (cA, n, .inl (upd f i.toNatClampNeg (vp_nar .boolean x)))))) H0 H1 locs1 → W p l e R s m args below meth c H1 locs1 cells slots Q (F0 m (pc + 1) ls rest)) : W p l e R s m args below meth c H locs cells slots Q (F0 m pc ls (.int x :: .int i :: .ref a :: rest)) := by
  obtain ⟨q0, h0⟩ := hI.ix ha
  exact va_zast hexec hb hK hI.P (hI.D _) hI.2.1 q0 t0 h0 ht hin hdg (fun H1 locs1 hP _ hS => kk H1 locs1 (hI.set h0 hP hS))
theorem ww_newz (hexec : p.tables.exec = Jvm.exec) (hb : c.code = cc) (harr : (Cond.arrayClass (newarray.typeOf .boolean)).before args s = true) (hK : va_K D cl tys s) (hI : ww_I D cl b0 w H0 H locs) (t0 : Nat) {cA : ClassId} (ht : tys[t0]? = some (cA, .boolean))
    {n : Int32} {N : Nat} (hn : ¬ n < 0) (hN : n.toNatClampNeg = N) (hbytes : N * 1 ≤ 536870912) (hcells : cells + 1 ≤ R.cells) (hslots : slots + N ≤ R.slots) (hdg : decode cc pc = .ok (.newarray .boolean, 2))
    (kk : ∀ (q : Nat) (H1 : Heap), w q = none → ww_I D cl b0 (va_up w q (some (.inl (cA, N, .inl (fun _ => 0))))) H0 H1 locs →
      W p l e R s m args below meth c H1 locs (cells + 1) (slots + N) Q (F0 m (pc + 2) ls (.ref q :: rest))) : W p l e R s m args below meth c H locs cells slots Q (F0 m pc ls (.int n :: rest)) :=
  va_newa (ty := .boolean) (a0 := (N, .inl (fun _ => 0))) hexec hb harr rfl hK hI.P (hI.D _) hI.2.1 (fun q h => Nat.le_trans hI.2.2 h) (fun _ => rfl) hn hN hbytes hcells hslots hdg (fun q cB H1 hK2 hP hD hS => by
    have h1 : va_RA s cA .boolean := (hK.2 t0 _ ht).2
    have h2 : va_RA s cB .boolean := (hK2.2 tys.length (cB, .boolean) (by rw [List.getElem?_append_right (Nat.le_refl _), Nat.sub_self]; rfl)).2
    have h3 : cB = cA := Option.some.inj (Eq.trans (Eq.symm h2) h1)
    subst h3
    exact kk q H1 (ww_fresh (fun _ _ he => hI.lt he) hD) (hI.push hP hD hS))
end WW5
section ZJ2
variable {l : Launch} {mt : zMt} {big nst : List Cond} {D : va_G} {cl : List vw_C} {tys : List (ClassId × FieldType)} {b0 μ pc : Nat}
def zdvl (f : Int64 → Int64 → Int64) : zP → zP := fun P d K N μ pc L st w k n Q => ∃ (x y : Int64) (r : List Value), st = .long y :: .long x :: r ∧ ¬ y = 0 ∧ P d K N μ (pc + 1) L (.long (f x y) :: r) w k n Q
theorem zdvl_mono (f : Int64 → Int64 → Int64) : zMono (zdvl f) := fun _ _ h _ _ _ _ _ _ _ _ _ _ _ ⟨x, y, r, h1, h2, h3⟩ => ⟨x, y, r, h1, h2, h _ _ _ _ _ _ _ _ _ _ _ h3⟩
theorem zdvl_div (hd : decode (mt μ).2.1 pc = .ok (.ldiv, 1)) : zS l mt big nst D cl tys b0 μ pc (zdvl (fun x y => x / y)) := by
  intro d K N L st w k n Q hx p e R s m args below meth c hC H locs ls hI hL
  obtain ⟨x, y, r, rfl, h2, h3⟩ := hx
  exact lv_ldiv hC.1 hC.2.1 hd h2 (h3 p e R s m args below meth c hC H locs ls hI hL)
theorem zdvl_rem (hd : decode (mt μ).2.1 pc = .ok (.lrem, 1)) : zS l mt big nst D cl tys b0 μ pc (zdvl (fun x y => x - x / y * y)) := by
  intro d K N L st w k n Q hx p e R s m args below meth c hC H locs ls hI hL
  obtain ⟨x, y, r, rfl, h2, h3⟩ := hx
  exact lv_lrem hC.1 hC.2.1 hd h2 (h3 p e R s m args below meth c hC H locs ls hI hL)
def zretL : zP → zP := fun _ _ K N _ _ _ st w k n Q => ∃ x : Int64, st = [.long x] ∧ k ≤ K ∧ n ≤ N ∧ Q (.inl (some (.long x))) w k n
theorem zretL_mono : zMono zretL := fun _ _ _ _ _ _ _ _ _ _ _ _ _ _ hx => hx
theorem zretL_ok (hd : decode (mt μ).2.1 pc = .ok (.lreturn, 1)) (hr : (mt μ).2.2.2 = some .long) : zS l mt big nst D cl tys b0 μ pc zretL := by
  intro d K N L st w k n Q hx p e R s m args below meth c hC H locs ls hI hL
  obtain ⟨x, rfl, h1, h2, h3⟩ := hx
  refine ww_know fun k1 k2 => W.widen h1 h2 (W_mono ?_ (zMQ_of (a := args)))
  exact W.lret hC.1 hC.2.1 (hC.2.2.2.1.trans hr) (fun t ht hW => zQc_end hC.2.2.2.2.2.2.2.2.1 hI k1 k2 h3 ht hW) hI.2.1.2.2 hd hC.2.2.2.2.2.2.1
def zzald (tys : List (ClassId × FieldType)) : zP → zP := fun P d K N μ pc L st w k n Q => ∃ (a j : Nat) (r : List Value) (t : Nat) (cA : ClassId) (NA : Nat) (f : Nat → Int32), st = .int (nI j) :: .ref a :: r ∧ tys[t]? = some (cA, .boolean) ∧ w a = some (.inl (cA, NA, .inl f)) ∧ j < NA ∧ NA < 2 ^ 31 ∧ P d K N μ (pc + 1) L (.int (f j) :: r) w k n Q
theorem zzald_mono (tys : List (ClassId × FieldType)) : zMono (zzald tys) := fun _ _ h _ _ _ _ _ _ _ _ _ _ _ ⟨a, j, r, t, cA, NA, f, h1, h2, h3, h4, h5, h6⟩ => ⟨a, j, r, t, cA, NA, f, h1, h2, h3, h4, h5, h _ _ _ _ _ _ _ _ _ _ _ h6⟩
theorem zzald_ok (hd : decode (mt μ).2.1 pc = .ok (.baload, 1)) : zS l mt big nst D cl tys b0 μ pc (zzald tys) := by
  intro d K N L st w k n Q hx p e R s m args below meth c hC H locs ls hI hL
  obtain ⟨a, j, r, t, cA, NA, f, rfl, h2, h3, h4, h5, h6⟩ := hx
  have hk := h6 p e R s m args below meth c hC H locs ls hI hL
  refine ww_zald hC.1 hC.2.1 hC.2.2.2.2.2.2.2.2.1 hI t h3 h2 (vp_in_nI h4 h5) hd ?_
  rw [nI_clamp (Nat.lt_trans h4 h5)]
  exact hk
def zzast (tys : List (ClassId × FieldType)) : zP → zP := fun P d K N μ pc L st w k n Q => ∃ (a j : Nat) (x : Int32) (r : List Value) (t : Nat) (cA : ClassId) (NA : Nat) (f : Nat → Int32), st = .int x :: .int (nI j) :: .ref a :: r ∧ (x = 0 ∨ x = 1) ∧ tys[t]? = some (cA, .boolean) ∧ w a = some (.inl (cA, NA, .inl f)) ∧ j < NA ∧ NA < 2 ^ 31 ∧ P d K N μ (pc + 1) L r (va_up w a (some (.inl (cA, NA, .inl (upd f j x))))) k n Q
theorem zzast_mono (tys : List (ClassId × FieldType)) : zMono (zzast tys) := fun _ _ h _ _ _ _ _ _ _ _ _ _ _ ⟨a, j, x, r, t, cA, NA, f, h1, h0, h2, h3, h4, h5, h6⟩ => ⟨a, j, x, r, t, cA, NA, f, h1, h0, h2, h3, h4, h5, h _ _ _ _ _ _ _ _ _ _ _ h6⟩
theorem zzast_ok (hd : decode (mt μ).2.1 pc = .ok (.bastore, 1)) : zS l mt big nst D cl tys b0 μ pc (zzast tys) := by
  intro d K N L st w k n Q hx p e R s m args below meth c hC H locs ls hI hL
  obtain ⟨a, j, x, r, t, cA, NA, f, rfl, h0, h2, h3, h4, h5, h6⟩ := hx
  refine ww_zast hC.1 hC.2.1 hC.2.2.2.2.2.2.2.2.1 hI t h3 h2 (vp_in_nI h4 h5) hd (fun H1 locs1 hI1 => ?_)
  have hz : vp_nar .boolean x = x := by rcases h0 with rfl | rfl <;> rfl
  rw [nI_clamp (Nat.lt_trans h4 h5), hz] at hI1
  exact h6 p e R s m args below meth c hC H1 locs1 ls hI1 hL
def znewz (tys : List (ClassId × FieldType)) : zP → zP := fun P d K N μ pc L st w k n Q => ∃ (j : Nat) (r : List Value) (t : Nat) (cA : ClassId), st = .int (nI j) :: r ∧ tys[t]? = some (cA, .boolean) ∧ j < 2 ^ 20 ∧ k + 1 ≤ K ∧ n + j ≤ N ∧ ∀ q : Nat, w q = none → P d K N μ (pc + 2) L (.ref q :: r) (va_up w q (some (.inl (cA, j, .inl (fun _ => 0))))) (k + 1) (n + j) Q
theorem znewz_mono (tys : List (ClassId × FieldType)) : zMono (znewz tys) := fun _ _ h _ _ _ _ _ _ _ _ _ _ _ ⟨j, r, t, cA, h1, h2, h3, h4, h5, h6⟩ => ⟨j, r, t, cA, h1, h2, h3, h4, h5, fun q hq => h _ _ _ _ _ _ _ _ _ _ _ (h6 q hq)⟩
theorem znewz_ok (hd : decode (mt μ).2.1 pc = .ok (.newarray .boolean, 2)) (ha : Cond.arrayClass (newarray.typeOf .boolean) ∈ big) : zS l mt big nst D cl tys b0 μ pc (znewz tys) := by
  intro d K N L st w k n Q hx p e R s m args below meth c hC H locs ls hI hL
  obtain ⟨j, r, t, cA, rfl, h2, h3, h4, h5, h6⟩ := hx
  exact ww_newz hC.1 hC.2.1 (hC.2.2.2.2.1 _ ha) hC.2.2.2.2.2.2.2.2.1 hI t h2 (nI_pos (by omega)) (nI_clamp (by omega)) (by omega) (Nat.le_trans h4 hC.2.2.2.2.2.2.2.2.2.2.2.1) (Nat.le_trans h5 hC.2.2.2.2.2.2.2.2.2.2.2.2.1) hd (fun q H1 hq hI1 => h6 q hq p e R s m args below meth c hC H1 locs ls hI1 hL)
/-- a cast of null, or of an object of one of the classes ys -/
def zcast (ys : List Nat) : zP → zP := fun P d K N μ pc L st w k n Q => ∃ (v : Value) (r : List Value), st = v :: r ∧ (v = .null ∨ ∃ (a ci : Nat) (fs : List Value), v = .ref a ∧ ci ∈ ys ∧ w a = some (.inr (ci, fs))) ∧ P d K N μ (pc + 3) L st w k n Q
theorem zcast_mono (ys : List Nat) : zMono (zcast ys) := fun _ _ h _ _ _ _ _ _ _ _ _ _ _ ⟨v, r, h1, h2, h3⟩ => ⟨v, r, h1, h2, h _ _ _ _ _ _ _ _ _ _ _ h3⟩
theorem zcast_ok {ys : List Nat} {index : Nat} {nm : String} (hd : decode (mt μ).2.1 pc = .ok (.checkcast index, 3)) (hl : Cond.classLink (mt μ).1.cls index nm ∈ big) (hy : ∀ ci ∈ ys, ∃ q : vw_C, cl[ci]? = some q ∧ Cond.castable q.1 nm ∈ nst) : zS l mt big nst D cl tys b0 μ pc (zcast ys) := by
  intro d K N L st w k n Q hx p e R s m args below meth c hC H locs ls hI hL
  obtain ⟨v, r, rfl, h2, h3⟩ := hx
  obtain ⟨hx, hb, hml, hr, hts, hown, hlk, hnm, hK, hd1, hd2, hd3, hd4, hN⟩ := id hC
  have hk := h3 p e R s m args below meth c hC H locs ls hI hL
  rcases h2 with rfl | ⟨a, ci, fs, rfl, hci, ha⟩
  · exact lv_castN hx hb hd hk
  · obtain ⟨q, hq, hc⟩ := hy ci hci
    exact va_castY hx hb hown (hts _ hl) (hN _ hc) (ww_recv hK hI hq ha) hd hk
/-- is it of the class: yes for the classes ys, no for the classes ns and for null -/
def zinst (ys ns : List Nat) : zP → zP := fun P d K N μ pc L st w k n Q => ∃ (v : Value) (r : List Value), st = v :: r ∧ ((v = .null ∧ P d K N μ (pc + 3) L (.int 0 :: r) w k n Q) ∨ (∃ (a ci : Nat) (fs : List Value), v = .ref a ∧ ci ∈ ys ∧ w a = some (.inr (ci, fs)) ∧ P d K N μ (pc + 3) L (.int 1 :: r) w k n Q) ∨ (∃ (a ci : Nat) (fs : List Value), v = .ref a ∧ ci ∈ ns ∧ w a = some (.inr (ci, fs)) ∧ P d K N μ (pc + 3) L (.int 0 :: r) w k n Q))
theorem zinst_mono (ys ns : List Nat) : zMono (zinst ys ns) := fun _ _ h _ _ _ _ _ _ _ _ _ _ _ ⟨v, r, h1, h2⟩ => ⟨v, r, h1, by
  rcases h2 with ⟨a1, a2⟩ | ⟨a, ci, fs, a1, a2, a3, a4⟩ | ⟨a, ci, fs, a1, a2, a3, a4⟩
  · exact Or.inl ⟨a1, h _ _ _ _ _ _ _ _ _ _ _ a2⟩
  · exact Or.inr (Or.inl ⟨a, ci, fs, a1, a2, a3, h _ _ _ _ _ _ _ _ _ _ _ a4⟩)
  · exact Or.inr (Or.inr ⟨a, ci, fs, a1, a2, a3, h _ _ _ _ _ _ _ _ _ _ _ a4⟩)⟩
theorem zinst_ok {ys ns : List Nat} {index : Nat} {nm : String} (hd : decode (mt μ).2.1 pc = .ok (.instanceof index, 3)) (hl : Cond.classLink (mt μ).1.cls index nm ∈ big) (hy : ∀ ci ∈ ys, ∃ q : vw_C, cl[ci]? = some q ∧ Cond.castable q.1 nm ∈ nst) (hn : ∀ ci ∈ ns, ∃ q : vw_C, cl[ci]? = some q ∧ Cond.not (.castable q.1 nm) ∈ nst) : zS l mt big nst D cl tys b0 μ pc (zinst ys ns) := by
  intro d K N L st w k n Q hx p e R s m args below meth c hC H locs ls hI hL
  obtain ⟨v, r, rfl, h2⟩ := hx
  obtain ⟨hx, hb, hml, hr, hts, hown, hlk, hnm, hK, hd1, hd2, hd3, hd4, hN⟩ := id hC
  rcases h2 with ⟨rfl, h3⟩ | ⟨a, ci, fs, rfl, hci, ha, h3⟩ | ⟨a, ci, fs, rfl, hci, ha, h3⟩
  · exact lv_instN hx hb hd (h3 p e R s m args below meth c hC H locs ls hI hL)
  · obtain ⟨q, hq, hc⟩ := hy ci hci
    exact va_instY hx hb hown (hts _ hl) (hN _ hc) (ww_recv hK hI hq ha) hd (h3 p e R s m args below meth c hC H locs ls hI hL)
  · obtain ⟨q, hq, hc⟩ := hn ci hci
    exact va_instNo hx hb hown (hts _ hl) (va_Nc.of (hN _ hc)) (ww_recv hK hI hq ha) hd (h3 p e R s m args below meth c hC H locs ls hI hL)
/-- a call that names an abstract method of owner; the receiver's class ci has its own -/
theorem zcA_ok (hst : ww_st nst) {μ' na ci index : Nat} {owner : String} {x : MethodName} {q : vw_C} (hd : decode (mt μ).2.1 pc = .ok (.invokevirtual index, 3)) (hy : plainFor (mt μ').1 = true) (hc : cl[ci]? = some q) (hg : GoodIn big (va_wsU (mt μ).1.cls index q.1 owner x (mt μ').1 (zws mt big μ'))) (hz : Cond.declares ⟨owner, x.name, x.desc⟩ ∈ nst) (hds : owner ≠ "java/lang/invoke/MethodHandle" ∧ owner ≠ "java/lang/invoke/VarHandle" ∧ (parseMethodDescriptor x.desc).map (fun d => d.parameters.length) = some na) (hmax : (mt μ').2.2.1 ≤ 45) : zS l mt big nst D cl tys b0 μ pc (zcV (mt μ').2.2.1 μ' na ci) := by
  intro d K N L st w k n Q hx p e R s m args below meth c hC H locs ls hI hL
  obtain ⟨b, As, rest, fs, rfl, q2, q3, q4, q5, d', K', N', Q', g1, g2, g3, g4, hno, g5⟩ := hx
  obtain ⟨hx, hb, hml, hr, hts, hown, hlk, hnm, hK, hd1, hd2, hd3, hd4, hN⟩ := id hC
  have hsz : ls.size = (mt μ).2.2.1 := by obtain ⟨-, lv, q1, -⟩ := hL; exact q1.1
  refine z_call hI (va_runU (As := As) (rest := rest) ⟨hx, hb, hml, hown, hts⟩ (g4.met hno hy q3) (va_cwA na hts hg rfl rfl rfl (hN _ hz) hds ⟨by show d' + 1 ≤ R.frames; omega, by show 8 + ((mt μ').2.2.1 + 11) + 64 * d' ≤ R.locals; omega⟩) (ww_preV hst hN hK hI hc q5) rfl q2 hsz rfl (lv_room q4) hd ⟨by omega, by omega⟩) (fun v w' k' n' H1 locs1 hq hI1 => g5 v w' k' n' hq p e R s m args below meth c hC H1 locs1 ls hI1 hL)
/-- one of two steps: an abstract method is called, and the receiver's class decides -/
def zor (t1 t2 : zP → zP) : zP → zP := fun P d K N μ pc L st w k n Q => t1 P d K N μ pc L st w k n Q ∨ t2 P d K N μ pc L st w k n Q
theorem zor_mono {t1 t2 : zP → zP} (h1 : zMono t1) (h2 : zMono t2) : zMono (zor t1 t2) := fun P P' h d K N μ pc L st w k n Q hx => hx.elim (fun q => Or.inl (h1 P P' h d K N μ pc L st w k n Q q)) (fun q => Or.inr (h2 P P' h d K N μ pc L st w k n Q q))
theorem zor_ok {t1 t2 : zP → zP} (h1 : zS l mt big nst D cl tys b0 μ pc t1) (h2 : zS l mt big nst D cl tys b0 μ pc t2) : zS l mt big nst D cl tys b0 μ pc (zor t1 t2) := fun d K N L st w k n Q hx => hx.elim (h1 d K N L st w k n Q) (h2 d K N L st w k n Q)
/-- Math.max, Math.abs -/
def zmax : zP → zP := fun P d K N μ pc L st w k n Q => ∃ (x y : Int32) (r : List Value), st = .int y :: .int x :: r ∧ (r.map fun v => v.category).sum ≤ 8 ∧ 1 ≤ d ∧ k ≤ K ∧ n ≤ N ∧ P d K N μ (pc + 3) L (.int (if x < y then y else x) :: r) w k n Q
theorem zmax_mono : zMono zmax := fun _ _ h _ _ _ _ _ _ _ _ _ _ _ ⟨x, y, r, h1, h2, h3, h4, h5, h6⟩ => ⟨x, y, r, h1, h2, h3, h4, h5, h _ _ _ _ _ _ _ _ _ _ _ h6⟩
theorem zmax_ok {index : Nat} (hd : decode (mt μ).2.1 pc = .ok (.invokestatic index, 3)) (h1 : Cond.methodLink (mt μ).1.cls index Lib.Math.max.name ∈ big) (h2 : Cond.static Lib.Math.max.name ∈ big) (h3 : Cond.initialized "java/lang/Math" ∈ big) (h4 : Cond.code Lib.Math.max.name Lib.Math.max.code 2 (some .int) ∈ big) : zS l mt big nst D cl tys b0 μ pc zmax := by
  intro d K N L st w k n Q hx p e R s m args below meth c hC H locs ls hI hL
  obtain ⟨x, y, r, rfl, q2, q3, q4, q5, q6⟩ := hx
  obtain ⟨hx, hb, hml, hr, hts, hown, hlk, hnm, hK, hd1, hd2, hd3, hd4, hN⟩ := id hC
  have hsz : ls.size = (mt μ).2.2.1 := by obtain ⟨-, lv, q1, -⟩ := hL; exact q1.1
  exact va_mmax hx hb (hml.trans hsz.symm) hown (hts _ h1) (hts _ h2) (hts _ h3) (hts _ h4) (by omega) (by omega) (by omega) (by omega) hd (q6 p e R s m args below meth c hC H locs ls hI hL)
def zabs : zP → zP := fun P d K N μ pc L st w k n Q => ∃ (x : Int32) (r : List Value), st = .int x :: r ∧ (r.map fun v => v.category).sum ≤ 8 ∧ 1 ≤ d ∧ k ≤ K ∧ n ≤ N ∧ P d K N μ (pc + 3) L (.int (if 0 ≤ x then x else 0 - x) :: r) w k n Q
theorem zabs_mono : zMono zabs := fun _ _ h _ _ _ _ _ _ _ _ _ _ _ ⟨x, r, h1, h2, h3, h4, h5, h6⟩ => ⟨x, r, h1, h2, h3, h4, h5, h _ _ _ _ _ _ _ _ _ _ _ h6⟩
theorem zabs_ok {index : Nat} (hd : decode (mt μ).2.1 pc = .ok (.invokestatic index, 3)) (h1 : Cond.methodLink (mt μ).1.cls index Lib.Math.abs.name ∈ big) (h2 : Cond.static Lib.Math.abs.name ∈ big) (h3 : Cond.initialized "java/lang/Math" ∈ big) (h4 : Cond.code Lib.Math.abs.name Lib.Math.abs.code 1 (some .int) ∈ big) : zS l mt big nst D cl tys b0 μ pc zabs := by
  intro d K N L st w k n Q hx p e R s m args below meth c hC H locs ls hI hL
  obtain ⟨x, r, rfl, q2, q3, q4, q5, q6⟩ := hx
  obtain ⟨hx, hb, hml, hr, hts, hown, hlk, hnm, hK, hd1, hd2, hd3, hd4, hN⟩ := id hC
  have hsz : ls.size = (mt μ).2.2.1 := by obtain ⟨-, lv, q1, -⟩ := hL; exact q1.1
  exact va_mabs hx hb (hml.trans hsz.symm) hown (hts _ h1) (hts _ h2) (hts _ h3) (hts _ h4) (by omega) (by omega) (by omega) (by omega) hd (q6 p e R s m args below meth c hC H locs ls hI hL)
end ZJ2
end
section
/-! System.arraycopy of ints; an int row's clone() -/
section WW6
variable {p : Program} {l : Launch} {e : Env} {R : Room} {s : State} {m : MethodId} {args : Array Value} {below : List Frame} {meth : Method} {c : Code} {H : Heap} {locs : List Loc} {cells slots : Nat} {Q : State → Prop}
variable {cc : ByteArray} {pc : Nat} {ls : Array Slot} {rest : List Value} {D : va_G} {cl : List vw_C} {b0 : Nat} {a : Nat} {tys : List (ClassId × FieldType)} {w : ww_W} {H0 : Heap}
theorem ww_clone (hexec : p.tables.exec = Jvm.exec) (hb : c.code = cc) (hml : c.maxLocals = ls.size) {own : String} {index : Nat} (hown : s.vm.findClass own = some m.cls)
    (hlink : (Cond.methodLink own index ⟨"[I", "clone", "()Ljava/lang/Object;"⟩).before args s = true) (hsame : (Cond.sameMethod "[I" "java/lang/Object" "clone" "()Ljava/lang/Object;").before args s = true)
    (hnat : (Cond.native ⟨"java/lang/Object", "clone", "()Ljava/lang/Object;"⟩).before args s = true) (hinst : (Cond.instanceMethod ⟨"java/lang/Object", "clone", "()Ljava/lang/Object;"⟩).before args s = true)
    (hsel : (Cond.selects "[I" ⟨"[I", "clone", "()Ljava/lang/Object;"⟩ ⟨"java/lang/Object", "clone", "()Ljava/lang/Object;"⟩).before args s = true) (hcl : va_Nw (.castable "[I" "java/lang/Cloneable") s)
    (hK : va_K D cl tys s) (hI : ww_I D cl b0 w H0 H locs) (t0 : Nat) {cA : ClassId} {n : Nat} {f : Nat → Int32} (ha : w a = some (.inl (cA, n, .inl f))) (ht : tys[t0]? = some (cA, .int))
    (hframes : 1 ≤ R.frames) (hlocals : (rest.map fun v => v.category).sum + 14 ≤ R.locals) (hcells : cells + 1 ≤ R.cells) (hslots : slots + n ≤ R.slots) (hdg : decode cc pc = .ok (.invokevirtual index, 3))
    (kk : ∀ (q : Nat) (H1 : Heap), w q = none → ww_I D cl b0 (va_up w q (some (.inl (cA, n, .inl f)))) H0 H1 locs →
      W p l e R s m args below meth c H1 locs (cells + 1) (slots + n) Q (F0 m (pc + 3) ls (.ref q :: rest))) : W p l e R s m args below meth c H locs cells slots Q (F0 m pc ls (.ref a :: rest)) := by
  obtain ⟨q0, h0⟩ := hI.ix ha
  refine va_clone hexec hb hml hown hlink hsame hnat hinst hsel hcl hK hI.P (hI.D _) hI.2.1 (fun q h => Nat.le_trans hI.2.2 h) q0 t0 h0 ht (va_nm_int (hK.2 t0 _ ht).2) (fun i v hv => ?_) hframes hlocals hcells hslots hdg (fun q H1 _ hP hD hS => kk q H1 (ww_fresh (fun _ _ he => hI.lt he) hD) (hI.push hP hD hS))
  have hlt : i < n := by
    have := (Array.getElem?_eq_some_iff.mp hv).1
    rw [vp_cell_i, arrV_size] at this
    exact this
  rw [vp_cell_i, arrV_read _ _ hlt] at hv
  cases hv
  rfl
end WW6
section ZJ3
variable {l : Launch} {mt : zMt} {big nst : List Cond} {D : va_G} {cl : List vw_C} {tys : List (ClassId × FieldType)} {b0 μ pc : Nat}
def zclone (tys : List (ClassId × FieldType)) : zP → zP := fun P d K N μ pc L st w k n Q => ∃ (a : Nat) (r : List Value) (t : Nat) (cA : ClassId) (NA : Nat) (f : Nat → Int32), st = .ref a :: r ∧ (r.map fun v => v.category).sum ≤ 8 ∧ 1 ≤ d ∧ tys[t]? = some (cA, .int) ∧ w a = some (.inl (cA, NA, .inl f)) ∧ k + 1 ≤ K ∧ n + NA ≤ N ∧ ∀ q : Nat, w q = none → P d K N μ (pc + 3) L (.ref q :: r) (va_up w q (some (.inl (cA, NA, .inl f)))) (k + 1) (n + NA) Q
theorem zclone_mono (tys : List (ClassId × FieldType)) : zMono (zclone tys) := fun _ _ h _ _ _ _ _ _ _ _ _ _ _ ⟨a, r, t, cA, NA, f, h1, h2, h3, h4, h5, h6, h7, h8⟩ => ⟨a, r, t, cA, NA, f, h1, h2, h3, h4, h5, h6, h7, fun q hq => h _ _ _ _ _ _ _ _ _ _ _ (h8 q hq)⟩
theorem zclone_ok {index : Nat} (hd : decode (mt μ).2.1 pc = .ok (.invokevirtual index, 3)) (h1 : Cond.methodLink (mt μ).1.cls index ⟨"[I", "clone", "()Ljava/lang/Object;"⟩ ∈ big) (h2 : Cond.sameMethod "[I" "java/lang/Object" "clone" "()Ljava/lang/Object;" ∈ big) (h3 : Cond.native ⟨"java/lang/Object", "clone", "()Ljava/lang/Object;"⟩ ∈ big) (h4 : Cond.instanceMethod ⟨"java/lang/Object", "clone", "()Ljava/lang/Object;"⟩ ∈ big) (h5 : Cond.selects "[I" ⟨"[I", "clone", "()Ljava/lang/Object;"⟩ ⟨"java/lang/Object", "clone", "()Ljava/lang/Object;"⟩ ∈ big) (h6 : Cond.castable "[I" "java/lang/Cloneable" ∈ nst) : zS l mt big nst D cl tys b0 μ pc (zclone tys) := by
  intro d K N L st w k n Q hx p e R s m args below meth c hC H locs ls hI hL
  obtain ⟨a, r, t, cA, NA, f, rfl, q2, q3, q4, q5, q6, q7, q8⟩ := hx
  obtain ⟨hx, hb, hml, hr, hts, hown, hlk, hnm, hK, hd1, hd2, hd3, hd4, hN⟩ := id hC
  have hsz : ls.size = (mt μ).2.2.1 := by obtain ⟨-, lv, q1, -⟩ := hL; exact q1.1
  exact ww_clone hx hb (hml.trans hsz.symm) hown (hts _ h1) (hts _ h2) (hts _ h3) (hts _ h4) (hts _ h5) (hN _ h6) hK hI t q5 q4 (by omega) (by omega) (by omega) (by omega) hd (fun q H1 hq hI1 => q8 q hq p e R s m args below meth c hC H1 locs ls hI1 hL)
def zcopy (tys : List (ClassId × FieldType)) : zP → zP := fun P d K N μ pc L st w k n Q => ∃ (a a0 sp dp j : Nat) (r : List Value) (t : Nat) (cA : ClassId) (n0 n1 : Nat) (f g : Nat → Int32), st = .int (nI j) :: .int (nI dp) :: .ref a :: .int (nI sp) :: .ref a0 :: r ∧ (r.map fun v => v.category).sum ≤ 8 ∧ 1 ≤ d ∧ tys[t]? = some (cA, .int) ∧ w a0 = some (.inl (cA, n0, .inl f)) ∧ w a = some (.inl (cA, n1, .inl g)) ∧ sp + j ≤ n0 ∧ dp + j ≤ n1 ∧ n0 < 2 ^ 31 ∧ n1 < 2 ^ 31 ∧ P d K N μ (pc + 3) L r (va_up w a (some (.inl (cA, n1, .inl (va_cpy f g sp dp j))))) k n Q
theorem zcopy_mono (tys : List (ClassId × FieldType)) : zMono (zcopy tys) := fun _ _ h _ _ _ _ _ _ _ _ _ _ _ ⟨a, a0, sp, dp, j, r, t, cA, n0, n1, f, g, h1, h2, h3, h4, h5, h6, h7, h8, h9, h10, h11⟩ => ⟨a, a0, sp, dp, j, r, t, cA, n0, n1, f, g, h1, h2, h3, h4, h5, h6, h7, h8, h9, h10, h _ _ _ _ _ _ _ _ _ _ _ h11⟩
theorem zcopy_ok {index : Nat} (hd : decode (mt μ).2.1 pc = .ok (.invokestatic index, 3)) (h1 : Cond.methodLink (mt μ).1.cls index arraycopyName ∈ big) (h2 : Cond.native arraycopyName ∈ big) (h3 : Cond.static arraycopyName ∈ big) (h4 : Cond.initialized "java/lang/System" ∈ big) (hnw : nativeFrameWords "java/lang/System" "arraycopy" 5 + 11 ≤ 56) : zS l mt big nst D cl tys b0 μ pc (zcopy tys) := by
  intro d K N L st w k n Q hx p e R s m args below meth c hC H locs ls hI hL
  obtain ⟨a, a0, sp, dp, j, r, t, cA, n0, n1, f, g, rfl, q2, q3, q4, q5, q6, q7, q8, q9, q10, q11⟩ := hx
  obtain ⟨hx, hb, hml, hr, hts, hown, hlk, hnm, hK, hd1, hd2, hd3, hd4, hN⟩ := id hC
  have hsz : ls.size = (mt μ).2.2.1 := by obtain ⟨-, lv, q1, -⟩ := hL; exact q1.1
  refine ww_copyi hx hb (hml.trans hsz.symm) hown (hts _ h1) (hts _ h2) (hts _ h3) (hts _ h4) hK hI t q5 q6 q4 (nI_pos (by omega)) (nI_pos (by omega)) (nI_pos (by omega)) (by rw [nI_clamp (by omega), nI_clamp (by omega)]; exact q7) (by rw [nI_clamp (by omega), nI_clamp (by omega)]; exact q8) (by omega) (by omega) hd (fun H1 locs1 hI1 => ?_)
  rw [nI_clamp (show sp < 2 ^ 31 by omega), nI_clamp (show dp < 2 ^ 31 by omega), nI_clamp (show j < 2 ^ 31 by omega)] at hI1
  exact q11 p e R s m args below meth c hC H1 locs1 ls hI1 hL
/-- a cast of a row of ints to what it is -/
def zcastI (tys : List (ClassId × FieldType)) : zP → zP := fun P d K N μ pc L st w k n Q => ∃ (a : Nat) (r : List Value) (t : Nat) (cA : ClassId) (x : vp_A), st = .ref a :: r ∧ tys[t]? = some (cA, .int) ∧ w a = some (.inl (cA, x)) ∧ P d K N μ (pc + 3) L st w k n Q
theorem zcastI_mono (tys : List (ClassId × FieldType)) : zMono (zcastI tys) := fun _ _ h _ _ _ _ _ _ _ _ _ _ _ ⟨a, r, t, cA, x, h1, h2, h3, h4⟩ => ⟨a, r, t, cA, x, h1, h2, h3, h _ _ _ _ _ _ _ _ _ _ _ h4⟩
theorem zcastI_ok {index : Nat} (hd : decode (mt μ).2.1 pc = .ok (.checkcast index, 3)) (hl : Cond.classLink (mt μ).1.cls index "[I" ∈ big) : zS l mt big nst D cl tys b0 μ pc (zcastI tys) := by
  intro d K N L st w k n Q hx p e R s m args below meth c hC H locs ls hI hL
  obtain ⟨a, r, t, cA, x, rfl, h2, h3, h4⟩ := hx
  obtain ⟨hx, hb, hml, hr, hts, hown, hlk, hnm, hK, hd1, hd2, hd3, hd4, hN⟩ := id hC
  exact va_castA hx hb hown (hts _ hl) (ww_one (hI.1 _ _ h3).1) 0 rfl (va_nm_int (hK.2 t _ h2).2) hd (h4 p e R s m args below meth c hC H locs ls hI hL)
end ZJ3
end
section
-- ===== PART A: goes FIRST, ahead of the names: the tables' words, and 'selects' of the private methods out of them =====
/-- a private method of a class that the tables say can be made, by its rows of tables_1 -/
def lw_okq (q : MethodName × Nat) : Prop := (q.1.cls ≠ "java/lang/invoke/MethodHandle" ∧ q.1.cls ≠ "java/lang/invoke/VarHandle") ∧ Cond.instantiable q.1.cls q.2 ∈ tables_1 ∧ Cond.privateMethod q.1 ∈ tables_1 ∧ Cond.instanceMethod q.1 ∈ tables_1
theorem lw_p0 : lw_okq (⟨"VectorLanguage$Program", "hasOrNone", "(I)Z"⟩, 2) := ⟨⟨by decide +kernel, by decide +kernel⟩, List.mem_of_getElem? (i := 35) (by decide +kernel), List.mem_of_getElem? (i := 226) (by decide +kernel), List.mem_of_getElem? (i := 227) (by decide +kernel)⟩
theorem lw_p1 : lw_okq (⟨"VectorLanguage$Program", "acceptsArguments", "(II)Z"⟩, 2) := ⟨⟨by decide +kernel, by decide +kernel⟩, List.mem_of_getElem? (i := 35) (by decide +kernel), List.mem_of_getElem? (i := 233) (by decide +kernel), List.mem_of_getElem? (i := 234) (by decide +kernel)⟩
theorem lw_p2 : lw_okq (⟨"java/lang/Throwable", "fillInStackTrace", "(I)Ljava/lang/Throwable;"⟩, 6) := ⟨⟨by decide +kernel, by decide +kernel⟩, List.mem_of_getElem? (i := 278) (by decide +kernel), List.mem_of_getElem? (i := 276) (by decide +kernel), List.mem_of_getElem? (i := 277) (by decide +kernel)⟩
theorem lw_p3 : lw_okq (⟨"VectorLanguage$Evaluator", "evaluate", "(ILVectorLanguage$Environment;I)LVectorLanguage$Value;"⟩, 13) := ⟨⟨by decide +kernel, by decide +kernel⟩, List.mem_of_getElem? (i := 52) (by decide +kernel), List.mem_of_getElem? (i := 389) (by decide +kernel), List.mem_of_getElem? (i := 390) (by decide +kernel)⟩
theorem lw_p4 : lw_okq (⟨"VectorLanguage$Evaluator", "fail", "(I)LVectorLanguage$Vector;"⟩, 13) := ⟨⟨by decide +kernel, by decide +kernel⟩, List.mem_of_getElem? (i := 52) (by decide +kernel), List.mem_of_getElem? (i := 393) (by decide +kernel), List.mem_of_getElem? (i := 394) (by decide +kernel)⟩
theorem lw_p5 : lw_okq (⟨"VectorLanguage$Evaluator", "read", "(LVectorLanguage$Expression;LVectorLanguage$Environment;I)LVectorLanguage$Value;"⟩, 13) := ⟨⟨by decide +kernel, by decide +kernel⟩, List.mem_of_getElem? (i := 52) (by decide +kernel), List.mem_of_getElem? (i := 397) (by decide +kernel), List.mem_of_getElem? (i := 398) (by decide +kernel)⟩
theorem lw_p6 : lw_okq (⟨"VectorLanguage$Evaluator", "valueOf", "(LVectorLanguage$Held;I)LVectorLanguage$Value;"⟩, 13) := ⟨⟨by decide +kernel, by decide +kernel⟩, List.mem_of_getElem? (i := 52) (by decide +kernel), List.mem_of_getElem? (i := 405) (by decide +kernel), List.mem_of_getElem? (i := 406) (by decide +kernel)⟩
theorem lw_p7 : lw_okq (⟨"VectorLanguage$Evaluator", "evaluateArgument", "(LVectorLanguage$Argument;I)LVectorLanguage$Value;"⟩, 13) := ⟨⟨by decide +kernel, by decide +kernel⟩, List.mem_of_getElem? (i := 52) (by decide +kernel), List.mem_of_getElem? (i := 410) (by decide +kernel), List.mem_of_getElem? (i := 411) (by decide +kernel)⟩
theorem lw_p8 : lw_okq (⟨"VectorLanguage$Evaluator", "assign", "(LVectorLanguage$Expression;LVectorLanguage$Environment;I)LVectorLanguage$Value;"⟩, 13) := ⟨⟨by decide +kernel, by decide +kernel⟩, List.mem_of_getElem? (i := 52) (by decide +kernel), List.mem_of_getElem? (i := 415) (by decide +kernel), List.mem_of_getElem? (i := 416) (by decide +kernel)⟩
theorem lw_p9 : lw_okq (⟨"VectorLanguage$Evaluator", "evaluateOfOne", "(LVectorLanguage$Expression;LVectorLanguage$Environment;I)LVectorLanguage$Value;"⟩, 13) := ⟨⟨by decide +kernel, by decide +kernel⟩, List.mem_of_getElem? (i := 52) (by decide +kernel), List.mem_of_getElem? (i := 423) (by decide +kernel), List.mem_of_getElem? (i := 424) (by decide +kernel)⟩
theorem lw_p10 : lw_okq (⟨"VectorLanguage$Evaluator", "elementsOf", "(ILVectorLanguage$Environment;I)[I"⟩, 13) := ⟨⟨by decide +kernel, by decide +kernel⟩, List.mem_of_getElem? (i := 52) (by decide +kernel), List.mem_of_getElem? (i := 427) (by decide +kernel), List.mem_of_getElem? (i := 428) (by decide +kernel)⟩
theorem lw_p11 : lw_okq (⟨"VectorLanguage$Evaluator", "negate", "([I)LVectorLanguage$Vector;"⟩, 13) := ⟨⟨by decide +kernel, by decide +kernel⟩, List.mem_of_getElem? (i := 52) (by decide +kernel), List.mem_of_getElem? (i := 431) (by decide +kernel), List.mem_of_getElem? (i := 432) (by decide +kernel)⟩
theorem lw_p12 : lw_okq (⟨"VectorLanguage$Evaluator", "raise", "(I)LVectorLanguage$Vector;"⟩, 13) := ⟨⟨by decide +kernel, by decide +kernel⟩, List.mem_of_getElem? (i := 52) (by decide +kernel), List.mem_of_getElem? (i := 450) (by decide +kernel), List.mem_of_getElem? (i := 451) (by decide +kernel)⟩
theorem lw_p13 : lw_okq (⟨"VectorLanguage$Evaluator", "replace", "(LVectorLanguage$Expression;LVectorLanguage$Environment;I)LVectorLanguage$Value;"⟩, 13) := ⟨⟨by decide +kernel, by decide +kernel⟩, List.mem_of_getElem? (i := 52) (by decide +kernel), List.mem_of_getElem? (i := 454) (by decide +kernel), List.mem_of_getElem? (i := 455) (by decide +kernel)⟩
theorem lw_p14 : lw_okq (⟨"VectorLanguage$Evaluator", "store", "([I[ILVectorLanguage$Vector;LVectorLanguage$Environment;I)LVectorLanguage$Vector;"⟩, 13) := ⟨⟨by decide +kernel, by decide +kernel⟩, List.mem_of_getElem? (i := 52) (by decide +kernel), List.mem_of_getElem? (i := 458) (by decide +kernel), List.mem_of_getElem? (i := 459) (by decide +kernel)⟩
theorem lw_p15 : lw_okq (⟨"VectorLanguage$Places", "survey", "([I)V"⟩, 5) := ⟨⟨by decide +kernel, by decide +kernel⟩, List.mem_of_getElem? (i := 86) (by decide +kernel), List.mem_of_getElem? (i := 466) (by decide +kernel), List.mem_of_getElem? (i := 467) (by decide +kernel)⟩
def lw_privs_1 : List (MethodName × Nat) := [(⟨"VectorLanguage$Program", "hasOrNone", "(I)Z"⟩, 2), (⟨"VectorLanguage$Program", "acceptsArguments", "(II)Z"⟩, 2), (⟨"java/lang/Throwable", "fillInStackTrace", "(I)Ljava/lang/Throwable;"⟩, 6), (⟨"VectorLanguage$Evaluator", "evaluate", "(ILVectorLanguage$Environment;I)LVectorLanguage$Value;"⟩, 13), (⟨"VectorLanguage$Evaluator", "fail", "(I)LVectorLanguage$Vector;"⟩, 13), (⟨"VectorLanguage$Evaluator", "read", "(LVectorLanguage$Expression;LVectorLanguage$Environment;I)LVectorLanguage$Value;"⟩, 13), (⟨"VectorLanguage$Evaluator", "valueOf", "(LVectorLanguage$Held;I)LVectorLanguage$Value;"⟩, 13), (⟨"VectorLanguage$Evaluator", "evaluateArgument", "(LVectorLanguage$Argument;I)LVectorLanguage$Value;"⟩, 13), (⟨"VectorLanguage$Evaluator", "assign", "(LVectorLanguage$Expression;LVectorLanguage$Environment;I)LVectorLanguage$Value;"⟩, 13), (⟨"VectorLanguage$Evaluator", "evaluateOfOne", "(LVectorLanguage$Expression;LVectorLanguage$Environment;I)LVectorLanguage$Value;"⟩, 13), (⟨"VectorLanguage$Evaluator", "elementsOf", "(ILVectorLanguage$Environment;I)[I"⟩, 13), (⟨"VectorLanguage$Evaluator", "negate", "([I)LVectorLanguage$Vector;"⟩, 13), (⟨"VectorLanguage$Evaluator", "raise", "(I)LVectorLanguage$Vector;"⟩, 13), (⟨"VectorLanguage$Evaluator", "replace", "(LVectorLanguage$Expression;LVectorLanguage$Environment;I)LVectorLanguage$Value;"⟩, 13), (⟨"VectorLanguage$Evaluator", "store", "([I[ILVectorLanguage$Vector;LVectorLanguage$Environment;I)LVectorLanguage$Vector;"⟩, 13), (⟨"VectorLanguage$Places", "survey", "([I)V"⟩, 5)]
theorem lw_r1 : ∀ q ∈ lw_privs_1, lw_okq q := List.forall_mem_cons.mpr ⟨lw_p0, List.forall_mem_cons.mpr ⟨lw_p1, List.forall_mem_cons.mpr ⟨lw_p2, List.forall_mem_cons.mpr ⟨lw_p3, List.forall_mem_cons.mpr ⟨lw_p4, List.forall_mem_cons.mpr ⟨lw_p5, List.forall_mem_cons.mpr ⟨lw_p6, List.forall_mem_cons.mpr ⟨lw_p7, List.forall_mem_cons.mpr ⟨lw_p8, List.forall_mem_cons.mpr ⟨lw_p9, List.forall_mem_cons.mpr ⟨lw_p10, List.forall_mem_cons.mpr ⟨lw_p11, List.forall_mem_cons.mpr ⟨lw_p12, List.forall_mem_cons.mpr ⟨lw_p13, List.forall_mem_cons.mpr ⟨lw_p14, List.forall_mem_cons.mpr ⟨lw_p15, fun _ h => absurd h List.not_mem_nil⟩⟩⟩⟩⟩⟩⟩⟩⟩⟩⟩⟩⟩⟩⟩⟩
theorem lw_p16 : lw_okq (⟨"VectorLanguage$Places", "addThose", "([I)V"⟩, 5) := ⟨⟨by decide +kernel, by decide +kernel⟩, List.mem_of_getElem? (i := 86) (by decide +kernel), List.mem_of_getElem? (i := 471) (by decide +kernel), List.mem_of_getElem? (i := 472) (by decide +kernel)⟩
theorem lw_p17 : lw_okq (⟨"VectorLanguage$Places", "addOthers", "([II)V"⟩, 5) := ⟨⟨by decide +kernel, by decide +kernel⟩, List.mem_of_getElem? (i := 86) (by decide +kernel), List.mem_of_getElem? (i := 475) (by decide +kernel), List.mem_of_getElem? (i := 476) (by decide +kernel)⟩
theorem lw_p18 : lw_okq (⟨"VectorLanguage$Evaluator", "replaced", "([II[I)[I"⟩, 13) := ⟨⟨by decide +kernel, by decide +kernel⟩, List.mem_of_getElem? (i := 52) (by decide +kernel), List.mem_of_getElem? (i := 487) (by decide +kernel), List.mem_of_getElem? (i := 488) (by decide +kernel)⟩
theorem lw_p19 : lw_okq (⟨"VectorLanguage$Evaluator", "choose", "(LVectorLanguage$Expression;LVectorLanguage$Environment;I)LVectorLanguage$Value;"⟩, 13) := ⟨⟨by decide +kernel, by decide +kernel⟩, List.mem_of_getElem? (i := 52) (by decide +kernel), List.mem_of_getElem? (i := 507) (by decide +kernel), List.mem_of_getElem? (i := 508) (by decide +kernel)⟩
theorem lw_p20 : lw_okq (⟨"VectorLanguage$Evaluator", "condition", "(ILVectorLanguage$Environment;I)I"⟩, 13) := ⟨⟨by decide +kernel, by decide +kernel⟩, List.mem_of_getElem? (i := 52) (by decide +kernel), List.mem_of_getElem? (i := 511) (by decide +kernel), List.mem_of_getElem? (i := 512) (by decide +kernel)⟩
theorem lw_p21 : lw_okq (⟨"VectorLanguage$Evaluator", "repeat", "(LVectorLanguage$Expression;LVectorLanguage$Environment;I)LVectorLanguage$Value;"⟩, 13) := ⟨⟨by decide +kernel, by decide +kernel⟩, List.mem_of_getElem? (i := 52) (by decide +kernel), List.mem_of_getElem? (i := 515) (by decide +kernel), List.mem_of_getElem? (i := 516) (by decide +kernel)⟩
theorem lw_p22 : lw_okq (⟨"VectorLanguage$Evaluator", "call", "(LVectorLanguage$Expression;LVectorLanguage$Environment;I)LVectorLanguage$Value;"⟩, 13) := ⟨⟨by decide +kernel, by decide +kernel⟩, List.mem_of_getElem? (i := 52) (by decide +kernel), List.mem_of_getElem? (i := 542) (by decide +kernel), List.mem_of_getElem? (i := 543) (by decide +kernel)⟩
theorem lw_p23 : lw_okq (⟨"VectorLanguage$Evaluator", "enter", "(LVectorLanguage$Function;LVectorLanguage$Expression;LVectorLanguage$Environment;I)LVectorLanguage$Value;"⟩, 13) := ⟨⟨by decide +kernel, by decide +kernel⟩, List.mem_of_getElem? (i := 52) (by decide +kernel), List.mem_of_getElem? (i := 546) (by decide +kernel), List.mem_of_getElem? (i := 547) (by decide +kernel)⟩
theorem lw_p24 : lw_okq (⟨"VectorLanguage$Evaluator", "takeEndValue", "(LVectorLanguage$Environment;)LVectorLanguage$Value;"⟩, 13) := ⟨⟨by decide +kernel, by decide +kernel⟩, List.mem_of_getElem? (i := 52) (by decide +kernel), List.mem_of_getElem? (i := 570) (by decide +kernel), List.mem_of_getElem? (i := 571) (by decide +kernel)⟩
theorem lw_p25 : lw_okq (⟨"VectorLanguage$Evaluator", "absent", "(LVectorLanguage$Expression;LVectorLanguage$Environment;)LVectorLanguage$Value;"⟩, 13) := ⟨⟨by decide +kernel, by decide +kernel⟩, List.mem_of_getElem? (i := 52) (by decide +kernel), List.mem_of_getElem? (i := 574) (by decide +kernel), List.mem_of_getElem? (i := 575) (by decide +kernel)⟩
theorem lw_p26 : lw_okq (⟨"VectorLanguage$Evaluator", "truth", "(Z)LVectorLanguage$Vector;"⟩, 13) := ⟨⟨by decide +kernel, by decide +kernel⟩, List.mem_of_getElem? (i := 52) (by decide +kernel), List.mem_of_getElem? (i := 582) (by decide +kernel), List.mem_of_getElem? (i := 583) (by decide +kernel)⟩
theorem lw_p27 : lw_okq (⟨"VectorLanguage$Evaluator", "endCall", "(LVectorLanguage$Expression;LVectorLanguage$Environment;I)LVectorLanguage$Value;"⟩, 13) := ⟨⟨by decide +kernel, by decide +kernel⟩, List.mem_of_getElem? (i := 52) (by decide +kernel), List.mem_of_getElem? (i := 586) (by decide +kernel), List.mem_of_getElem? (i := 587) (by decide +kernel)⟩
theorem lw_p28 : lw_okq (⟨"VectorLanguage$Evaluator", "attempt", "(LVectorLanguage$Expression;LVectorLanguage$Environment;I)LVectorLanguage$Value;"⟩, 13) := ⟨⟨by decide +kernel, by decide +kernel⟩, List.mem_of_getElem? (i := 52) (by decide +kernel), List.mem_of_getElem? (i := 590) (by decide +kernel), List.mem_of_getElem? (i := 591) (by decide +kernel)⟩
theorem lw_p29 : lw_okq (⟨"VectorLanguage$Evaluator", "evaluateOfTwo", "(LVectorLanguage$Expression;LVectorLanguage$Environment;I)LVectorLanguage$Value;"⟩, 13) := ⟨⟨by decide +kernel, by decide +kernel⟩, List.mem_of_getElem? (i := 52) (by decide +kernel), List.mem_of_getElem? (i := 594) (by decide +kernel), List.mem_of_getElem? (i := 595) (by decide +kernel)⟩
theorem lw_p30 : lw_okq (⟨"VectorLanguage$Evaluator", "combine", "(LVectorLanguage$Expression;[I[I)LVectorLanguage$Vector;"⟩, 13) := ⟨⟨by decide +kernel, by decide +kernel⟩, List.mem_of_getElem? (i := 52) (by decide +kernel), List.mem_of_getElem? (i := 598) (by decide +kernel), List.mem_of_getElem? (i := 599) (by decide +kernel)⟩
theorem lw_p31 : lw_okq (⟨"VectorLanguage$Evaluator", "join", "([I[I)LVectorLanguage$Vector;"⟩, 13) := ⟨⟨by decide +kernel, by decide +kernel⟩, List.mem_of_getElem? (i := 52) (by decide +kernel), List.mem_of_getElem? (i := 602) (by decide +kernel), List.mem_of_getElem? (i := 603) (by decide +kernel)⟩
def lw_privs_2 : List (MethodName × Nat) := [(⟨"VectorLanguage$Places", "addThose", "([I)V"⟩, 5), (⟨"VectorLanguage$Places", "addOthers", "([II)V"⟩, 5), (⟨"VectorLanguage$Evaluator", "replaced", "([II[I)[I"⟩, 13), (⟨"VectorLanguage$Evaluator", "choose", "(LVectorLanguage$Expression;LVectorLanguage$Environment;I)LVectorLanguage$Value;"⟩, 13), (⟨"VectorLanguage$Evaluator", "condition", "(ILVectorLanguage$Environment;I)I"⟩, 13), (⟨"VectorLanguage$Evaluator", "repeat", "(LVectorLanguage$Expression;LVectorLanguage$Environment;I)LVectorLanguage$Value;"⟩, 13), (⟨"VectorLanguage$Evaluator", "call", "(LVectorLanguage$Expression;LVectorLanguage$Environment;I)LVectorLanguage$Value;"⟩, 13), (⟨"VectorLanguage$Evaluator", "enter", "(LVectorLanguage$Function;LVectorLanguage$Expression;LVectorLanguage$Environment;I)LVectorLanguage$Value;"⟩, 13), (⟨"VectorLanguage$Evaluator", "takeEndValue", "(LVectorLanguage$Environment;)LVectorLanguage$Value;"⟩, 13), (⟨"VectorLanguage$Evaluator", "absent", "(LVectorLanguage$Expression;LVectorLanguage$Environment;)LVectorLanguage$Value;"⟩, 13), (⟨"VectorLanguage$Evaluator", "truth", "(Z)LVectorLanguage$Vector;"⟩, 13), (⟨"VectorLanguage$Evaluator", "endCall", "(LVectorLanguage$Expression;LVectorLanguage$Environment;I)LVectorLanguage$Value;"⟩, 13), (⟨"VectorLanguage$Evaluator", "attempt", "(LVectorLanguage$Expression;LVectorLanguage$Environment;I)LVectorLanguage$Value;"⟩, 13), (⟨"VectorLanguage$Evaluator", "evaluateOfTwo", "(LVectorLanguage$Expression;LVectorLanguage$Environment;I)LVectorLanguage$Value;"⟩, 13), (⟨"VectorLanguage$Evaluator", "combine", "(LVectorLanguage$Expression;[I[I)LVectorLanguage$Vector;"⟩, 13), (⟨"VectorLanguage$Evaluator", "join", "([I[I)LVectorLanguage$Vector;"⟩, 13)]
theorem lw_r2 : ∀ q ∈ lw_privs_2, lw_okq q := List.forall_mem_cons.mpr ⟨lw_p16, List.forall_mem_cons.mpr ⟨lw_p17, List.forall_mem_cons.mpr ⟨lw_p18, List.forall_mem_cons.mpr ⟨lw_p19, List.forall_mem_cons.mpr ⟨lw_p20, List.forall_mem_cons.mpr ⟨lw_p21, List.forall_mem_cons.mpr ⟨lw_p22, List.forall_mem_cons.mpr ⟨lw_p23, List.forall_mem_cons.mpr ⟨lw_p24, List.forall_mem_cons.mpr ⟨lw_p25, List.forall_mem_cons.mpr ⟨lw_p26, List.forall_mem_cons.mpr ⟨lw_p27, List.forall_mem_cons.mpr ⟨lw_p28, List.forall_mem_cons.mpr ⟨lw_p29, List.forall_mem_cons.mpr ⟨lw_p30, List.forall_mem_cons.mpr ⟨lw_p31, fun _ h => absurd h List.not_mem_nil⟩⟩⟩⟩⟩⟩⟩⟩⟩⟩⟩⟩⟩⟩⟩⟩
theorem lw_p32 : lw_okq (⟨"VectorLanguage$Evaluator", "range", "(II)LVectorLanguage$Vector;"⟩, 13) := ⟨⟨by decide +kernel, by decide +kernel⟩, List.mem_of_getElem? (i := 52) (by decide +kernel), List.mem_of_getElem? (i := 607) (by decide +kernel), List.mem_of_getElem? (i := 608) (by decide +kernel)⟩
theorem lw_p33 : lw_okq (⟨"VectorLanguage$Evaluator", "pick", "([I[I)LVectorLanguage$Vector;"⟩, 13) := ⟨⟨by decide +kernel, by decide +kernel⟩, List.mem_of_getElem? (i := 52) (by decide +kernel), List.mem_of_getElem? (i := 614) (by decide +kernel), List.mem_of_getElem? (i := 615) (by decide +kernel)⟩
theorem lw_p34 : lw_okq (⟨"VectorLanguage$Evaluator", "pairUp", "(LVectorLanguage$Expression;[I[I)LVectorLanguage$Vector;"⟩, 13) := ⟨⟨by decide +kernel, by decide +kernel⟩, List.mem_of_getElem? (i := 52) (by decide +kernel), List.mem_of_getElem? (i := 621) (by decide +kernel), List.mem_of_getElem? (i := 622) (by decide +kernel)⟩
theorem lw_p35 : lw_okq (⟨"VectorLanguageModel", "fits", "(IIII)Z"⟩, 33) := ⟨⟨by decide +kernel, by decide +kernel⟩, List.mem_of_getElem? (i := 750) (by decide +kernel), List.mem_of_getElem? (i := 866) (by decide +kernel), List.mem_of_getElem? (i := 867) (by decide +kernel)⟩
theorem lw_p36 : lw_okq (⟨"VectorLanguageModel", "made", "(I)Z"⟩, 33) := ⟨⟨by decide +kernel, by decide +kernel⟩, List.mem_of_getElem? (i := 750) (by decide +kernel), List.mem_of_getElem? (i := 875) (by decide +kernel), List.mem_of_getElem? (i := 876) (by decide +kernel)⟩
theorem lw_p37 : lw_okq (⟨"VectorLanguageModel", "raise", "(I)I"⟩, 33) := ⟨⟨by decide +kernel, by decide +kernel⟩, List.mem_of_getElem? (i := 750) (by decide +kernel), List.mem_of_getElem? (i := 879) (by decide +kernel), List.mem_of_getElem? (i := 880) (by decide +kernel)⟩
theorem lw_p38 : lw_okq (⟨"VectorLanguageModel", "begin", "(II)V"⟩, 33) := ⟨⟨by decide +kernel, by decide +kernel⟩, List.mem_of_getElem? (i := 750) (by decide +kernel), List.mem_of_getElem? (i := 887) (by decide +kernel), List.mem_of_getElem? (i := 888) (by decide +kernel)⟩
theorem lw_p39 : lw_okq (⟨"VectorLanguageModel", "pile", "(III)V"⟩, 33) := ⟨⟨by decide +kernel, by decide +kernel⟩, List.mem_of_getElem? (i := 750) (by decide +kernel), List.mem_of_getElem? (i := 891) (by decide +kernel), List.mem_of_getElem? (i := 892) (by decide +kernel)⟩
theorem lw_p40 : lw_okq (⟨"VectorLanguageModel", "advance", "()V"⟩, 33) := ⟨⟨by decide +kernel, by decide +kernel⟩, List.mem_of_getElem? (i := 750) (by decide +kernel), List.mem_of_getElem? (i := 895) (by decide +kernel), List.mem_of_getElem? (i := 896) (by decide +kernel)⟩
theorem lw_p41 : lw_okq (⟨"VectorLanguageModel", "part", "(II)I"⟩, 33) := ⟨⟨by decide +kernel, by decide +kernel⟩, List.mem_of_getElem? (i := 750) (by decide +kernel), List.mem_of_getElem? (i := 902) (by decide +kernel), List.mem_of_getElem? (i := 903) (by decide +kernel)⟩
theorem lw_p42 : lw_okq (⟨"VectorLanguageModel", "one", "(I)I"⟩, 33) := ⟨⟨by decide +kernel, by decide +kernel⟩, List.mem_of_getElem? (i := 750) (by decide +kernel), List.mem_of_getElem? (i := 906) (by decide +kernel), List.mem_of_getElem? (i := 907) (by decide +kernel)⟩
theorem lw_p43 : lw_okq (⟨"VectorLanguageModel", "fresh", "(I)I"⟩, 33) := ⟨⟨by decide +kernel, by decide +kernel⟩, List.mem_of_getElem? (i := 750) (by decide +kernel), List.mem_of_getElem? (i := 910) (by decide +kernel), List.mem_of_getElem? (i := 911) (by decide +kernel)⟩
theorem lw_p44 : lw_okq (⟨"VectorLanguageModel", "sweep", "()V"⟩, 33) := ⟨⟨by decide +kernel, by decide +kernel⟩, List.mem_of_getElem? (i := 750) (by decide +kernel), List.mem_of_getElem? (i := 914) (by decide +kernel), List.mem_of_getElem? (i := 915) (by decide +kernel)⟩
theorem lw_p45 : lw_okq (⟨"VectorLanguageModel", "mark", "(I)V"⟩, 33) := ⟨⟨by decide +kernel, by decide +kernel⟩, List.mem_of_getElem? (i := 750) (by decide +kernel), List.mem_of_getElem? (i := 918) (by decide +kernel), List.mem_of_getElem? (i := 919) (by decide +kernel)⟩
theorem lw_p46 : lw_okq (⟨"VectorLanguageModel", "set", "(III)V"⟩, 33) := ⟨⟨by decide +kernel, by decide +kernel⟩, List.mem_of_getElem? (i := 750) (by decide +kernel), List.mem_of_getElem? (i := 922) (by decide +kernel), List.mem_of_getElem? (i := 923) (by decide +kernel)⟩
theorem lw_p47 : lw_okq (⟨"VectorLanguageModel", "over", "(I)V"⟩, 33) := ⟨⟨by decide +kernel, by decide +kernel⟩, List.mem_of_getElem? (i := 750) (by decide +kernel), List.mem_of_getElem? (i := 927) (by decide +kernel), List.mem_of_getElem? (i := 928) (by decide +kernel)⟩
def lw_privs_3 : List (MethodName × Nat) := [(⟨"VectorLanguage$Evaluator", "range", "(II)LVectorLanguage$Vector;"⟩, 13), (⟨"VectorLanguage$Evaluator", "pick", "([I[I)LVectorLanguage$Vector;"⟩, 13), (⟨"VectorLanguage$Evaluator", "pairUp", "(LVectorLanguage$Expression;[I[I)LVectorLanguage$Vector;"⟩, 13), (⟨"VectorLanguageModel", "fits", "(IIII)Z"⟩, 33), (⟨"VectorLanguageModel", "made", "(I)Z"⟩, 33), (⟨"VectorLanguageModel", "raise", "(I)I"⟩, 33), (⟨"VectorLanguageModel", "begin", "(II)V"⟩, 33), (⟨"VectorLanguageModel", "pile", "(III)V"⟩, 33), (⟨"VectorLanguageModel", "advance", "()V"⟩, 33), (⟨"VectorLanguageModel", "part", "(II)I"⟩, 33), (⟨"VectorLanguageModel", "one", "(I)I"⟩, 33), (⟨"VectorLanguageModel", "fresh", "(I)I"⟩, 33), (⟨"VectorLanguageModel", "sweep", "()V"⟩, 33), (⟨"VectorLanguageModel", "mark", "(I)V"⟩, 33), (⟨"VectorLanguageModel", "set", "(III)V"⟩, 33), (⟨"VectorLanguageModel", "over", "(I)V"⟩, 33)]
theorem lw_r3 : ∀ q ∈ lw_privs_3, lw_okq q := List.forall_mem_cons.mpr ⟨lw_p32, List.forall_mem_cons.mpr ⟨lw_p33, List.forall_mem_cons.mpr ⟨lw_p34, List.forall_mem_cons.mpr ⟨lw_p35, List.forall_mem_cons.mpr ⟨lw_p36, List.forall_mem_cons.mpr ⟨lw_p37, List.forall_mem_cons.mpr ⟨lw_p38, List.forall_mem_cons.mpr ⟨lw_p39, List.forall_mem_cons.mpr ⟨lw_p40, List.forall_mem_cons.mpr ⟨lw_p41, List.forall_mem_cons.mpr ⟨lw_p42, List.forall_mem_cons.mpr ⟨lw_p43, List.forall_mem_cons.mpr ⟨lw_p44, List.forall_mem_cons.mpr ⟨lw_p45, List.forall_mem_cons.mpr ⟨lw_p46, List.forall_mem_cons.mpr ⟨lw_p47, fun _ h => absurd h List.not_mem_nil⟩⟩⟩⟩⟩⟩⟩⟩⟩⟩⟩⟩⟩⟩⟩⟩
theorem lw_p48 : lw_okq (⟨"VectorLanguageModel", "look", "(II)V"⟩, 33) := ⟨⟨by decide +kernel, by decide +kernel⟩, List.mem_of_getElem? (i := 750) (by decide +kernel), List.mem_of_getElem? (i := 932) (by decide +kernel), List.mem_of_getElem? (i := 933) (by decide +kernel)⟩
theorem lw_p49 : lw_okq (⟨"VectorLanguageModel", "place", "(II)I"⟩, 33) := ⟨⟨by decide +kernel, by decide +kernel⟩, List.mem_of_getElem? (i := 750) (by decide +kernel), List.mem_of_getElem? (i := 936) (by decide +kernel), List.mem_of_getElem? (i := 937) (by decide +kernel)⟩
theorem lw_p50 : lw_okq (⟨"VectorLanguageModel", "wanted", "(I)I"⟩, 33) := ⟨⟨by decide +kernel, by decide +kernel⟩, List.mem_of_getElem? (i := 750) (by decide +kernel), List.mem_of_getElem? (i := 940) (by decide +kernel), List.mem_of_getElem? (i := 941) (by decide +kernel)⟩
theorem lw_p51 : lw_okq (⟨"VectorLanguageModel", "assign", "(II)V"⟩, 33) := ⟨⟨by decide +kernel, by decide +kernel⟩, List.mem_of_getElem? (i := 750) (by decide +kernel), List.mem_of_getElem? (i := 944) (by decide +kernel), List.mem_of_getElem? (i := 945) (by decide +kernel)⟩
theorem lw_p52 : lw_okq (⟨"VectorLanguageModel", "give", "(III)V"⟩, 33) := ⟨⟨by decide +kernel, by decide +kernel⟩, List.mem_of_getElem? (i := 750) (by decide +kernel), List.mem_of_getElem? (i := 948) (by decide +kernel), List.mem_of_getElem? (i := 949) (by decide +kernel)⟩
theorem lw_p53 : lw_okq (⟨"VectorLanguageModel", "replace", "(II)V"⟩, 33) := ⟨⟨by decide +kernel, by decide +kernel⟩, List.mem_of_getElem? (i := 750) (by decide +kernel), List.mem_of_getElem? (i := 952) (by decide +kernel), List.mem_of_getElem? (i := 953) (by decide +kernel)⟩
theorem lw_p54 : lw_okq (⟨"VectorLanguageModel", "replaced", "(III)I"⟩, 33) := ⟨⟨by decide +kernel, by decide +kernel⟩, List.mem_of_getElem? (i := 750) (by decide +kernel), List.mem_of_getElem? (i := 956) (by decide +kernel), List.mem_of_getElem? (i := 957) (by decide +kernel)⟩
theorem lw_p55 : lw_okq (⟨"VectorLanguageModel", "indexes", "(II)I"⟩, 33) := ⟨⟨by decide +kernel, by decide +kernel⟩, List.mem_of_getElem? (i := 750) (by decide +kernel), List.mem_of_getElem? (i := 960) (by decide +kernel), List.mem_of_getElem? (i := 961) (by decide +kernel)⟩
theorem lw_p56 : lw_okq (⟨"VectorLanguageModel", "at", "(II)I"⟩, 33) := ⟨⟨by decide +kernel, by decide +kernel⟩, List.mem_of_getElem? (i := 750) (by decide +kernel), List.mem_of_getElem? (i := 964) (by decide +kernel), List.mem_of_getElem? (i := 965) (by decide +kernel)⟩
theorem lw_p57 : lw_okq (⟨"VectorLanguageModel", "leaves", "(II)Z"⟩, 33) := ⟨⟨by decide +kernel, by decide +kernel⟩, List.mem_of_getElem? (i := 750) (by decide +kernel), List.mem_of_getElem? (i := 968) (by decide +kernel), List.mem_of_getElem? (i := 969) (by decide +kernel)⟩
theorem lw_p58 : lw_okq (⟨"VectorLanguageModel", "condition", "(II)V"⟩, 33) := ⟨⟨by decide +kernel, by decide +kernel⟩, List.mem_of_getElem? (i := 750) (by decide +kernel), List.mem_of_getElem? (i := 972) (by decide +kernel), List.mem_of_getElem? (i := 973) (by decide +kernel)⟩
theorem lw_p59 : lw_okq (⟨"VectorLanguageModel", "holds", "(I)Z"⟩, 33) := ⟨⟨by decide +kernel, by decide +kernel⟩, List.mem_of_getElem? (i := 750) (by decide +kernel), List.mem_of_getElem? (i := 976) (by decide +kernel), List.mem_of_getElem? (i := 977) (by decide +kernel)⟩
theorem lw_p60 : lw_okq (⟨"VectorLanguageModel", "function", "(II)V"⟩, 33) := ⟨⟨by decide +kernel, by decide +kernel⟩, List.mem_of_getElem? (i := 750) (by decide +kernel), List.mem_of_getElem? (i := 980) (by decide +kernel), List.mem_of_getElem? (i := 981) (by decide +kernel)⟩
theorem lw_p61 : lw_okq (⟨"VectorLanguageModel", "call", "(I)V"⟩, 33) := ⟨⟨by decide +kernel, by decide +kernel⟩, List.mem_of_getElem? (i := 750) (by decide +kernel), List.mem_of_getElem? (i := 984) (by decide +kernel), List.mem_of_getElem? (i := 985) (by decide +kernel)⟩
theorem lw_p62 : lw_okq (⟨"VectorLanguageModel", "argue", "(IIII)V"⟩, 33) := ⟨⟨by decide +kernel, by decide +kernel⟩, List.mem_of_getElem? (i := 750) (by decide +kernel), List.mem_of_getElem? (i := 988) (by decide +kernel), List.mem_of_getElem? (i := 989) (by decide +kernel)⟩
theorem lw_p63 : lw_okq (⟨"VectorLanguageModel", "missing", "(II)V"⟩, 33) := ⟨⟨by decide +kernel, by decide +kernel⟩, List.mem_of_getElem? (i := 750) (by decide +kernel), List.mem_of_getElem? (i := 992) (by decide +kernel), List.mem_of_getElem? (i := 993) (by decide +kernel)⟩
def lw_privs_4 : List (MethodName × Nat) := [(⟨"VectorLanguageModel", "look", "(II)V"⟩, 33), (⟨"VectorLanguageModel", "place", "(II)I"⟩, 33), (⟨"VectorLanguageModel", "wanted", "(I)I"⟩, 33), (⟨"VectorLanguageModel", "assign", "(II)V"⟩, 33), (⟨"VectorLanguageModel", "give", "(III)V"⟩, 33), (⟨"VectorLanguageModel", "replace", "(II)V"⟩, 33), (⟨"VectorLanguageModel", "replaced", "(III)I"⟩, 33), (⟨"VectorLanguageModel", "indexes", "(II)I"⟩, 33), (⟨"VectorLanguageModel", "at", "(II)I"⟩, 33), (⟨"VectorLanguageModel", "leaves", "(II)Z"⟩, 33), (⟨"VectorLanguageModel", "condition", "(II)V"⟩, 33), (⟨"VectorLanguageModel", "holds", "(I)Z"⟩, 33), (⟨"VectorLanguageModel", "function", "(II)V"⟩, 33), (⟨"VectorLanguageModel", "call", "(I)V"⟩, 33), (⟨"VectorLanguageModel", "argue", "(IIII)V"⟩, 33), (⟨"VectorLanguageModel", "missing", "(II)V"⟩, 33)]
theorem lw_r4 : ∀ q ∈ lw_privs_4, lw_okq q := List.forall_mem_cons.mpr ⟨lw_p48, List.forall_mem_cons.mpr ⟨lw_p49, List.forall_mem_cons.mpr ⟨lw_p50, List.forall_mem_cons.mpr ⟨lw_p51, List.forall_mem_cons.mpr ⟨lw_p52, List.forall_mem_cons.mpr ⟨lw_p53, List.forall_mem_cons.mpr ⟨lw_p54, List.forall_mem_cons.mpr ⟨lw_p55, List.forall_mem_cons.mpr ⟨lw_p56, List.forall_mem_cons.mpr ⟨lw_p57, List.forall_mem_cons.mpr ⟨lw_p58, List.forall_mem_cons.mpr ⟨lw_p59, List.forall_mem_cons.mpr ⟨lw_p60, List.forall_mem_cons.mpr ⟨lw_p61, List.forall_mem_cons.mpr ⟨lw_p62, List.forall_mem_cons.mpr ⟨lw_p63, fun _ h => absurd h List.not_mem_nil⟩⟩⟩⟩⟩⟩⟩⟩⟩⟩⟩⟩⟩⟩⟩⟩
theorem lw_p64 : lw_okq (⟨"VectorLanguageModel", "leave", "(II)V"⟩, 33) := ⟨⟨by decide +kernel, by decide +kernel⟩, List.mem_of_getElem? (i := 750) (by decide +kernel), List.mem_of_getElem? (i := 996) (by decide +kernel), List.mem_of_getElem? (i := 997) (by decide +kernel)⟩
theorem lw_p65 : lw_okq (⟨"VectorLanguageModel", "drop", "()V"⟩, 33) := ⟨⟨by decide +kernel, by decide +kernel⟩, List.mem_of_getElem? (i := 750) (by decide +kernel), List.mem_of_getElem? (i := 1000) (by decide +kernel), List.mem_of_getElem? (i := 1001) (by decide +kernel)⟩
theorem lw_p66 : lw_okq (⟨"VectorLanguageModel", "complain", "(I)V"⟩, 33) := ⟨⟨by decide +kernel, by decide +kernel⟩, List.mem_of_getElem? (i := 750) (by decide +kernel), List.mem_of_getElem? (i := 1004) (by decide +kernel), List.mem_of_getElem? (i := 1005) (by decide +kernel)⟩
theorem lw_p67 : lw_okq (⟨"VectorLanguageModel", "worked", "(II)I"⟩, 33) := ⟨⟨by decide +kernel, by decide +kernel⟩, List.mem_of_getElem? (i := 750) (by decide +kernel), List.mem_of_getElem? (i := 1008) (by decide +kernel), List.mem_of_getElem? (i := 1009) (by decide +kernel)⟩
theorem lw_p68 : lw_okq (⟨"VectorLanguageModel", "same", "(II)Z"⟩, 33) := ⟨⟨by decide +kernel, by decide +kernel⟩, List.mem_of_getElem? (i := 750) (by decide +kernel), List.mem_of_getElem? (i := 1012) (by decide +kernel), List.mem_of_getElem? (i := 1013) (by decide +kernel)⟩
theorem lw_p69 : lw_okq (⟨"VectorLanguageModel", "failed", "(I)I"⟩, 33) := ⟨⟨by decide +kernel, by decide +kernel⟩, List.mem_of_getElem? (i := 750) (by decide +kernel), List.mem_of_getElem? (i := 1016) (by decide +kernel), List.mem_of_getElem? (i := 1017) (by decide +kernel)⟩
theorem lw_p70 : lw_okq (⟨"VectorLanguageModel", "pairwise", "(IIII)I"⟩, 33) := ⟨⟨by decide +kernel, by decide +kernel⟩, List.mem_of_getElem? (i := 750) (by decide +kernel), List.mem_of_getElem? (i := 1020) (by decide +kernel), List.mem_of_getElem? (i := 1021) (by decide +kernel)⟩
theorem lw_p71 : lw_okq (⟨"VectorLanguageModel", "not", "(I)I"⟩, 33) := ⟨⟨by decide +kernel, by decide +kernel⟩, List.mem_of_getElem? (i := 750) (by decide +kernel), List.mem_of_getElem? (i := 1041) (by decide +kernel), List.mem_of_getElem? (i := 1042) (by decide +kernel)⟩
theorem lw_p72 : lw_okq (⟨"VectorLanguageModel", "joined", "(II)I"⟩, 33) := ⟨⟨by decide +kernel, by decide +kernel⟩, List.mem_of_getElem? (i := 750) (by decide +kernel), List.mem_of_getElem? (i := 1045) (by decide +kernel), List.mem_of_getElem? (i := 1046) (by decide +kernel)⟩
theorem lw_p73 : lw_okq (⟨"VectorLanguageModel", "range", "(II)I"⟩, 33) := ⟨⟨by decide +kernel, by decide +kernel⟩, List.mem_of_getElem? (i := 750) (by decide +kernel), List.mem_of_getElem? (i := 1049) (by decide +kernel), List.mem_of_getElem? (i := 1050) (by decide +kernel)⟩
theorem lw_p74 : lw_okq (⟨"VectorLanguageModel", "picked", "(II)I"⟩, 33) := ⟨⟨by decide +kernel, by decide +kernel⟩, List.mem_of_getElem? (i := 750) (by decide +kernel), List.mem_of_getElem? (i := 1053) (by decide +kernel), List.mem_of_getElem? (i := 1054) (by decide +kernel)⟩
theorem lw_p75 : lw_okq (⟨"VectorLanguageModel", "sum", "(I)I"⟩, 33) := ⟨⟨by decide +kernel, by decide +kernel⟩, List.mem_of_getElem? (i := 750) (by decide +kernel), List.mem_of_getElem? (i := 1057) (by decide +kernel), List.mem_of_getElem? (i := 1058) (by decide +kernel)⟩
theorem lw_p76 : lw_okq (⟨"VectorLanguageModel", "unwind", "()V"⟩, 33) := ⟨⟨by decide +kernel, by decide +kernel⟩, List.mem_of_getElem? (i := 750) (by decide +kernel), List.mem_of_getElem? (i := 1061) (by decide +kernel), List.mem_of_getElem? (i := 1062) (by decide +kernel)⟩
def lw_privs_5 : List (MethodName × Nat) := [(⟨"VectorLanguageModel", "leave", "(II)V"⟩, 33), (⟨"VectorLanguageModel", "drop", "()V"⟩, 33), (⟨"VectorLanguageModel", "complain", "(I)V"⟩, 33), (⟨"VectorLanguageModel", "worked", "(II)I"⟩, 33), (⟨"VectorLanguageModel", "same", "(II)Z"⟩, 33), (⟨"VectorLanguageModel", "failed", "(I)I"⟩, 33), (⟨"VectorLanguageModel", "pairwise", "(IIII)I"⟩, 33), (⟨"VectorLanguageModel", "not", "(I)I"⟩, 33), (⟨"VectorLanguageModel", "joined", "(II)I"⟩, 33), (⟨"VectorLanguageModel", "range", "(II)I"⟩, 33), (⟨"VectorLanguageModel", "picked", "(II)I"⟩, 33), (⟨"VectorLanguageModel", "sum", "(I)I"⟩, 33), (⟨"VectorLanguageModel", "unwind", "()V"⟩, 33)]
theorem lw_r5 : ∀ q ∈ lw_privs_5, lw_okq q := List.forall_mem_cons.mpr ⟨lw_p64, List.forall_mem_cons.mpr ⟨lw_p65, List.forall_mem_cons.mpr ⟨lw_p66, List.forall_mem_cons.mpr ⟨lw_p67, List.forall_mem_cons.mpr ⟨lw_p68, List.forall_mem_cons.mpr ⟨lw_p69, List.forall_mem_cons.mpr ⟨lw_p70, List.forall_mem_cons.mpr ⟨lw_p71, List.forall_mem_cons.mpr ⟨lw_p72, List.forall_mem_cons.mpr ⟨lw_p73, List.forall_mem_cons.mpr ⟨lw_p74, List.forall_mem_cons.mpr ⟨lw_p75, List.forall_mem_cons.mpr ⟨lw_p76, fun _ h => absurd h List.not_mem_nil⟩⟩⟩⟩⟩⟩⟩⟩⟩⟩⟩⟩⟩
def lw_privs : List (MethodName × Nat) := lw_privs_1 ++ (lw_privs_2 ++ (lw_privs_3 ++ (lw_privs_4 ++ (lw_privs_5))))
def lw_tbl : List Cond := k2_sels lw_privs ++ tables_1
theorem lw_privs_ok : ∀ q ∈ lw_privs, lw_okq q := by
  show ∀ q ∈ lw_privs_1 ++ (lw_privs_2 ++ (lw_privs_3 ++ (lw_privs_4 ++ (lw_privs_5)))), lw_okq q
  exact List.forall_mem_append.mpr ⟨lw_r1, List.forall_mem_append.mpr ⟨lw_r2, List.forall_mem_append.mpr ⟨lw_r3, List.forall_mem_append.mpr ⟨lw_r4, lw_r5⟩⟩⟩⟩
/-! the words that a callee's list may hold; all lists are this one -/
def zbig : List Cond := lw_tbl.filter goodWord
theorem zin {w : Cond} (i : Nat) (h : tables_1[i]? = some w) (hg : goodWord w = true) : w ∈ zbig := List.mem_filter.mpr ⟨List.mem_append_right _ (List.mem_of_getElem? h), hg⟩
theorem zsel {w : Cond} (i : Nat) (h : (k2_sels lw_privs)[i]? = some w) (hg : goodWord w = true) : w ∈ zbig := List.mem_filter.mpr ⟨List.mem_append_left _ (List.mem_of_getElem? h), hg⟩
theorem zgood {ws : List Cond} (h : ∀ w ∈ ws, w ∈ zbig) : GoodIn zbig ws := fun w hw => ⟨h w hw, good_of_word (List.mem_filter.mp (h w hw)).2⟩
theorem za {α : Type} {P : α → Prop} {a : α} {l : List α} (h : P a) (t : ∀ q ∈ l, P q) : ∀ q ∈ a :: l, P q := List.forall_mem_cons.mpr ⟨h, t⟩
theorem zn {α : Type} {P : α → Prop} : ∀ q ∈ ([] : List α), P q := fun _ h => nomatch h
theorem zgI {c : Cond} (h : c ∈ zbig) : GoodIn zbig (c :: zbig) := zgood (za h (fun _ q => q))
theorem zgS {own : String} {idx : Nat} {y : MethodName} {c : Cond} (h1 : Cond.methodLink own idx y ∈ zbig) (h2 : Cond.static y ∈ zbig) (h3 : Cond.initialized y.cls ∈ zbig) (h4 : c ∈ zbig) : GoodIn zbig (va_wsS own idx y (c :: zbig)) := zgood (za h1 (za h2 (za h3 (za h4 (fun _ q => q)))))
theorem zgV {own C : String} {idx : Nat} {y : MethodName} {c : Cond} (h1 : Cond.methodLink own idx y ∈ zbig) (h2 : Cond.instanceMethod y ∈ zbig) (h3 : Cond.selects C y y ∈ zbig) (h5 : Cond.initialized C ∈ zbig) (h4 : c ∈ zbig) : GoodIn zbig (wsV own idx C y (c :: zbig)) := zgood (za h1 (za h2 (za h3 (za h5 (za h4 (fun _ q => q))))))
theorem zgU {own C owner : String} {idx : Nat} {x y : MethodName} {c : Cond} (h1 : Cond.methodLink own idx x ∈ zbig) (h2 : Cond.sameMethod x.cls owner x.name x.desc ∈ zbig) (h3 : Cond.selects C x y ∈ zbig) (h5 : Cond.instanceMethod y ∈ zbig) (h6 : Cond.initialized y.cls ∈ zbig) (h4 : c ∈ zbig) : GoodIn zbig (va_wsU own idx C owner x y (c :: zbig)) := zgood (za h1 (za h2 (za h3 (za h5 (za h6 (za h4 (fun _ q => q)))))))
/-! words that are carried beside: nest mates, casts, an abstract method, what is not castable -/
def znst : List Cond := [.methodLinkNest "VectorLanguage" 9 ⟨"VectorLanguage$Program", "<init>", "()V"⟩ "VectorLanguage", .methodLinkNest "VectorLanguage$Evaluator" 22 ⟨"VectorLanguage$Places", "<init>", "()V"⟩ "VectorLanguage", .methodLinkNest "VectorLanguage$Vector" 1 ⟨"VectorLanguage$Value", "<init>", "()V"⟩ "VectorLanguage", .methodLinkNest "VectorLanguage$Value" 1 ⟨"VectorLanguage$Held", "<init>", "()V"⟩ "VectorLanguage", .methodLinkNest "VectorLanguage$Program" 23 ⟨"VectorLanguage", "isVariable", "(I)Z"⟩ "VectorLanguage", .methodLinkNest "VectorLanguage$Function" 1 ⟨"VectorLanguage$Value", "<init>", "()V"⟩ "VectorLanguage", .methodLinkNest "VectorLanguage$Argument" 1 ⟨"VectorLanguage$Held", "<init>", "()V"⟩ "VectorLanguage", .castable "[I" "java/lang/Cloneable", .castable "VectorLanguage$Argument" "VectorLanguage$Argument", .castable "VectorLanguage$Function" "VectorLanguage$Value", .castable "VectorLanguage$Vector" "VectorLanguage$Value", .castable "VectorLanguage$Vector" "VectorLanguage$Vector", .castable "VectorLanguage$Function" "VectorLanguage$Function", .castable "VectorLanguage$Argument" "VectorLanguage$Held", .castable "VectorLanguage$Function" "VectorLanguage$Held", .castable "VectorLanguage$Vector" "VectorLanguage$Held", .declares ⟨"VectorLanguage$Value", "size", "()I"⟩, .arrayOver (.object "VectorLanguage$Expression"), .arrayOver (.object "VectorLanguage$Held"), .not (.castable "VectorLanguage$Vector" "VectorLanguage$Argument"), .not (.castable "VectorLanguage$Function" "VectorLanguage$Argument"), .not (.castable "VectorLanguage$Argument" "VectorLanguage$Value"), .not (.castable "VectorLanguage$Function" "VectorLanguage$Vector"), .not (.castable "VectorLanguage$Argument" "VectorLanguage$Vector"), .not (.castable "VectorLanguage$Vector" "VectorLanguage$Function"), .not (.castable "VectorLanguage$Argument" "VectorLanguage$Function")]
theorem zst_nc {C T : String} {s U : State} (hW : s.vm.Alike U.vm) (h : va_Nw (.not (.castable C T)) s) : va_Nw (.not (.castable C T)) U := by
  obtain ⟨c, t, h1, h2, h3⟩ := (va_Nc.of (args := #[]) h).moved hW
  unfold va_Nw
  simp [Cond.before, Cond.holds, Cond.value, h1, h2, h3]
theorem znst_st : ww_st znst := by
  unfold ww_st znst
  refine za ⟨fun s U e h => va_Nw.same rfl e h, fun s U hW h => va_Nw.warmM hW h⟩ ?_
  refine za ⟨fun s U e h => va_Nw.same rfl e h, fun s U hW h => va_Nw.warmM hW h⟩ ?_
  refine za ⟨fun s U e h => va_Nw.same rfl e h, fun s U hW h => va_Nw.warmM hW h⟩ ?_
  refine za ⟨fun s U e h => va_Nw.same rfl e h, fun s U hW h => va_Nw.warmM hW h⟩ ?_
  refine za ⟨fun s U e h => va_Nw.same rfl e h, fun s U hW h => va_Nw.warmM hW h⟩ ?_
  refine za ⟨fun s U e h => va_Nw.same rfl e h, fun s U hW h => va_Nw.warmM hW h⟩ ?_
  refine za ⟨fun s U e h => va_Nw.same rfl e h, fun s U hW h => va_Nw.warmM hW h⟩ ?_
  refine za ⟨fun s U e h => va_Nw.same rfl e h, fun s U hW h => va_Nw.warmC hW h⟩ ?_
  refine za ⟨fun s U e h => va_Nw.same rfl e h, fun s U hW h => va_Nw.warmC hW h⟩ ?_
  refine za ⟨fun s U e h => va_Nw.same rfl e h, fun s U hW h => va_Nw.warmC hW h⟩ ?_
  refine za ⟨fun s U e h => va_Nw.same rfl e h, fun s U hW h => va_Nw.warmC hW h⟩ ?_
  refine za ⟨fun s U e h => va_Nw.same rfl e h, fun s U hW h => va_Nw.warmC hW h⟩ ?_
  refine za ⟨fun s U e h => va_Nw.same rfl e h, fun s U hW h => va_Nw.warmC hW h⟩ ?_
  refine za ⟨fun s U e h => va_Nw.same rfl e h, fun s U hW h => va_Nw.warmC hW h⟩ ?_
  refine za ⟨fun s U e h => va_Nw.same rfl e h, fun s U hW h => va_Nw.warmC hW h⟩ ?_
  refine za ⟨fun s U e h => va_Nw.same rfl e h, fun s U hW h => va_Nw.warmC hW h⟩ ?_
  refine za ⟨fun s U e h => va_Nw.same rfl e h, fun s U hW h => va_Nw.warmD hW h⟩ ?_
  refine za ⟨fun s U e h => va_AO.moved (e ▸ Vm.Alike.refl _) h, fun s U hW h => va_AO.moved hW.alike h⟩ ?_
  refine za ⟨fun s U e h => va_AO.moved (e ▸ Vm.Alike.refl _) h, fun s U hW h => va_AO.moved hW.alike h⟩ ?_
  refine za ⟨fun s U e h => zst_nc (e ▸ Vm.Alike.refl _) h, fun s U hW h => zst_nc hW.alike h⟩ ?_
  refine za ⟨fun s U e h => zst_nc (e ▸ Vm.Alike.refl _) h, fun s U hW h => zst_nc hW.alike h⟩ ?_
  refine za ⟨fun s U e h => zst_nc (e ▸ Vm.Alike.refl _) h, fun s U hW h => zst_nc hW.alike h⟩ ?_
  refine za ⟨fun s U e h => zst_nc (e ▸ Vm.Alike.refl _) h, fun s U hW h => zst_nc hW.alike h⟩ ?_
  refine za ⟨fun s U e h => zst_nc (e ▸ Vm.Alike.refl _) h, fun s U hW h => zst_nc hW.alike h⟩ ?_
  refine za ⟨fun s U e h => zst_nc (e ▸ Vm.Alike.refl _) h, fun s U hW h => zst_nc hW.alike h⟩ ?_
  refine za ⟨fun s U e h => zst_nc (e ▸ Vm.Alike.refl _) h, fun s U hW h => zst_nc hW.alike h⟩ ?_
  exact zn
end
section
/-! the classes whose objects the world holds: by their places here; fields in this order -/
def RC0 : String := "VectorLanguage"
def FC0 : u_T := fun k => match k with
  | 0 => ("VectorLanguage", "program", "LVectorLanguage$Program;", true)
  | 1 => ("VectorLanguage", "evaluator", "LVectorLanguage$Evaluator;", true)
  | _ => ("VectorLanguage", "last", "LVectorLanguage$Value;", false)
def tC0 : Nat → FieldType := fun k => match k with
  | 0 => .object "VectorLanguage$Program"
  | 1 => .object "VectorLanguage$Evaluator"
  | _ => .object "VectorLanguage$Value"
theorem tC0_ok : ∀ k, k < 3 → parseFieldDescriptor (FC0 k).2.2.1 = some (tC0 k) := by decide +kernel
theorem nC0 : ∀ a, a < 3 → ∀ b, b < 3 → a ≠ b → (FC0 a).2.1 ≠ (FC0 b).2.1 := by decide +kernel
abbrev dC0 : List Value := [.null, .null, .null]
theorem dC0_ok : ∀ j, j < 3 → defaultValue (tC0 j) = vp_V dC0 j := by
  intro j hj
  rcases (show j = 0 ∨ j = 1 ∨ j = 2 by omega) with rfl | rfl | rfl <;> rfl
theorem iC0 : ∀ w ∈ u_ws RC0 FC0 3, w ∈ zbig :=
  za (zin 180 (by decide +kernel) rfl) (za (zin 182 (by decide +kernel) rfl) (za (zin 184 (by decide +kernel) rfl) (zn)))
def RC1 : String := "VectorLanguage$Program"
def FC1 : u_T := fun k => match k with
  | 0 => ("VectorLanguage$Program", "expressions", "[LVectorLanguage$Expression;", true)
  | _ => ("VectorLanguage$Program", "made", "I", false)
def tC1 : Nat → FieldType := fun k => match k with
  | 0 => .array (.object "VectorLanguage$Expression")
  | _ => .int
theorem tC1_ok : ∀ k, k < 2 → parseFieldDescriptor (FC1 k).2.2.1 = some (tC1 k) := by decide +kernel
theorem nC1 : ∀ a, a < 2 → ∀ b, b < 2 → a ≠ b → (FC1 a).2.1 ≠ (FC1 b).2.1 := by decide +kernel
abbrev dC1 : List Value := [.null, .int 0]
theorem dC1_ok : ∀ j, j < 2 → defaultValue (tC1 j) = vp_V dC1 j := by
  intro j hj
  rcases (show j = 0 ∨ j = 1 by omega) with rfl | rfl <;> rfl
theorem iC1 : ∀ w ∈ u_ws RC1 FC1 2, w ∈ zbig :=
  za (zin 46 (by decide +kernel) rfl) (za (zin 48 (by decide +kernel) rfl) (zn))
def RC2 : String := "VectorLanguage$Evaluator"
def FC2 : u_T := fun k => match k with
  | 0 => ("VectorLanguage$Evaluator", "program", "LVectorLanguage$Program;", true)
  | 1 => ("VectorLanguage$Evaluator", "global", "LVectorLanguage$Environment;", true)
  | 2 => ("VectorLanguage$Evaluator", "environments", "I", false)
  | 3 => ("VectorLanguage$Evaluator", "steps", "I", false)
  | 4 => ("VectorLanguage$Evaluator", "argumentsEvaluated", "I", false)
  | 5 => ("VectorLanguage$Evaluator", "failed", "I", false)
  | 6 => ("VectorLanguage$Evaluator", "ending", "LVectorLanguage$Environment;", false)
  | 7 => ("VectorLanguage$Evaluator", "endValue", "LVectorLanguage$Value;", false)
  | 8 => ("VectorLanguage$Evaluator", "places", "LVectorLanguage$Places;", true)
  | 9 => ("VectorLanguage$Evaluator", "nothing", "LVectorLanguage$Vector;", true)
  | 10 => ("VectorLanguage$Evaluator", "notAvailable", "LVectorLanguage$Vector;", true)
  | 11 => ("VectorLanguage$Evaluator", "zero", "LVectorLanguage$Vector;", true)
  | _ => ("VectorLanguage$Evaluator", "one", "LVectorLanguage$Vector;", true)
def tC2 : Nat → FieldType := fun k => match k with
  | 0 => .object "VectorLanguage$Program"
  | 1 => .object "VectorLanguage$Environment"
  | 2 => .int
  | 3 => .int
  | 4 => .int
  | 5 => .int
  | 6 => .object "VectorLanguage$Environment"
  | 7 => .object "VectorLanguage$Value"
  | 8 => .object "VectorLanguage$Places"
  | 9 => .object "VectorLanguage$Vector"
  | 10 => .object "VectorLanguage$Vector"
  | 11 => .object "VectorLanguage$Vector"
  | _ => .object "VectorLanguage$Vector"
theorem tC2_ok : ∀ k, k < 13 → parseFieldDescriptor (FC2 k).2.2.1 = some (tC2 k) := by decide +kernel
theorem nC2 : ∀ a, a < 13 → ∀ b, b < 13 → a ≠ b → (FC2 a).2.1 ≠ (FC2 b).2.1 := by decide +kernel
abbrev dC2 : List Value := [.null, .null, .int 0, .int 0, .int 0, .int 0, .null, .null, .null, .null, .null, .null, .null]
theorem dC2_ok : ∀ j, j < 13 → defaultValue (tC2 j) = vp_V dC2 j := by
  intro j hj
  rcases (show j = 0 ∨ j = 1 ∨ j = 2 ∨ j = 3 ∨ j = 4 ∨ j = 5 ∨ j = 6 ∨ j = 7 ∨ j = 8 ∨ j = 9 ∨ j = 10 ∨ j = 11 ∨ j = 12 by omega) with rfl | rfl | rfl | rfl | rfl | rfl | rfl | rfl | rfl | rfl | rfl | rfl | rfl <;> rfl
theorem iC2 : ∀ w ∈ u_ws RC2 FC2 13, w ∈ zbig :=
  za (zin 150 (by decide +kernel) rfl) (za (zin 152 (by decide +kernel) rfl) (za (zin 154 (by decide +kernel) rfl) (za (zin 156 (by decide +kernel) rfl) (za (zin 158 (by decide +kernel) rfl) (za (zin 160 (by decide +kernel) rfl) (za (zin 162 (by decide +kernel) rfl) (za (zin 164 (by decide +kernel) rfl) (za (zin 166 (by decide +kernel) rfl) (za (zin 168 (by decide +kernel) rfl) (za (zin 170 (by decide +kernel) rfl) (za (zin 172 (by decide +kernel) rfl) (za (zin 174 (by decide +kernel) rfl) (zn)))))))))))))
def RC3 : String := "VectorLanguage$Environment"
def FC3 : u_T := fun k => match k with
  | 0 => ("VectorLanguage$Environment", "held", "[LVectorLanguage$Held;", true)
  | 1 => ("VectorLanguage$Environment", "outer", "LVectorLanguage$Environment;", true)
  | 2 => ("VectorLanguage$Environment", "called", "LVectorLanguage$Function;", true)
  | 3 => ("VectorLanguage$Environment", "given", "I", true)
  | _ => ("VectorLanguage$Environment", "over", "Z", false)
def tC3 : Nat → FieldType := fun k => match k with
  | 0 => .array (.object "VectorLanguage$Held")
  | 1 => .object "VectorLanguage$Environment"
  | 2 => .object "VectorLanguage$Function"
  | 3 => .int
  | _ => .boolean
theorem tC3_ok : ∀ k, k < 5 → parseFieldDescriptor (FC3 k).2.2.1 = some (tC3 k) := by decide +kernel
theorem nC3 : ∀ a, a < 5 → ∀ b, b < 5 → a ≠ b → (FC3 a).2.1 ≠ (FC3 b).2.1 := by decide +kernel
abbrev dC3 : List Value := [.null, .null, .null, .int 0, .int 0]
theorem dC3_ok : ∀ j, j < 5 → defaultValue (tC3 j) = vp_V dC3 j := by
  intro j hj
  rcases (show j = 0 ∨ j = 1 ∨ j = 2 ∨ j = 3 ∨ j = 4 by omega) with rfl | rfl | rfl | rfl | rfl <;> rfl
theorem iC3 : ∀ w ∈ u_ws RC3 FC3 5, w ∈ zbig :=
  za (zin 74 (by decide +kernel) rfl) (za (zin 76 (by decide +kernel) rfl) (za (zin 78 (by decide +kernel) rfl) (za (zin 80 (by decide +kernel) rfl) (za (zin 82 (by decide +kernel) rfl) (zn)))))
def RC4 : String := "VectorLanguage$Places"
def FC4 : u_T := fun k => match k with
  | 0 => ("VectorLanguage$Places", "row", "[I", true)
  | 1 => ("VectorLanguage$Places", "count", "I", false)
  | 2 => ("VectorLanguage$Places", "anyBelow", "Z", false)
  | 3 => ("VectorLanguage$Places", "anyAbove", "Z", false)
  | _ => ("VectorLanguage$Places", "anyNa", "Z", false)
def tC4 : Nat → FieldType := fun k => match k with
  | 0 => .array (.int)
  | 1 => .int
  | 2 => .boolean
  | 3 => .boolean
  | _ => .boolean
theorem tC4_ok : ∀ k, k < 5 → parseFieldDescriptor (FC4 k).2.2.1 = some (tC4 k) := by decide +kernel
theorem nC4 : ∀ a, a < 5 → ∀ b, b < 5 → a ≠ b → (FC4 a).2.1 ≠ (FC4 b).2.1 := by decide +kernel
abbrev dC4 : List Value := [.null, .int 0, .int 0, .int 0, .int 0]
theorem dC4_ok : ∀ j, j < 5 → defaultValue (tC4 j) = vp_V dC4 j := by
  intro j hj
  rcases (show j = 0 ∨ j = 1 ∨ j = 2 ∨ j = 3 ∨ j = 4 by omega) with rfl | rfl | rfl | rfl | rfl <;> rfl
theorem iC4 : ∀ w ∈ u_ws RC4 FC4 5, w ∈ zbig :=
  za (zin 98 (by decide +kernel) rfl) (za (zin 100 (by decide +kernel) rfl) (za (zin 102 (by decide +kernel) rfl) (za (zin 104 (by decide +kernel) rfl) (za (zin 106 (by decide +kernel) rfl) (zn)))))
def RC5 : String := "VectorLanguage$Vector"
def FC5 : u_T := fun k => match k with
  | _ => ("VectorLanguage$Vector", "elements", "[I", true)
def tC5 : Nat → FieldType := fun k => match k with
  | _ => .array (.int)
theorem tC5_ok : ∀ k, k < 1 → parseFieldDescriptor (FC5 k).2.2.1 = some (tC5 k) := by decide +kernel
theorem nC5 : ∀ a, a < 1 → ∀ b, b < 1 → a ≠ b → (FC5 a).2.1 ≠ (FC5 b).2.1 := by decide +kernel
abbrev dC5 : List Value := [.null]
theorem dC5_ok : ∀ j, j < 1 → defaultValue (tC5 j) = vp_V dC5 j := by
  intro j hj
  rcases (show j = 0 by omega) with rfl <;> rfl
theorem iC5 : ∀ w ∈ u_ws RC5 FC5 1, w ∈ zbig :=
  za (zin 125 (by decide +kernel) rfl) (zn)
def RC6 : String := "VectorLanguage$Expression"
def FC6 : u_T := fun k => match k with
  | 0 => ("VectorLanguage$Expression", "kind", "I", true)
  | 1 => ("VectorLanguage$Expression", "a", "I", true)
  | 2 => ("VectorLanguage$Expression", "b", "I", true)
  | 3 => ("VectorLanguage$Expression", "c", "I", true)
  | _ => ("VectorLanguage$Expression", "number", "LVectorLanguage$Vector;", true)
def tC6 : Nat → FieldType := fun k => match k with
  | 0 => .int
  | 1 => .int
  | 2 => .int
  | 3 => .int
  | _ => .object "VectorLanguage$Vector"
theorem tC6_ok : ∀ k, k < 5 → parseFieldDescriptor (FC6 k).2.2.1 = some (tC6 k) := by decide +kernel
theorem nC6 : ∀ a, a < 5 → ∀ b, b < 5 → a ≠ b → (FC6 a).2.1 ≠ (FC6 b).2.1 := by decide +kernel
abbrev dC6 : List Value := [.int 0, .int 0, .int 0, .int 0, .null]
theorem dC6_ok : ∀ j, j < 5 → defaultValue (tC6 j) = vp_V dC6 j := by
  intro j hj
  rcases (show j = 0 ∨ j = 1 ∨ j = 2 ∨ j = 3 ∨ j = 4 by omega) with rfl | rfl | rfl | rfl | rfl <;> rfl
theorem iC6 : ∀ w ∈ u_ws RC6 FC6 5, w ∈ zbig :=
  za (zin 341 (by decide +kernel) rfl) (za (zin 343 (by decide +kernel) rfl) (za (zin 345 (by decide +kernel) rfl) (za (zin 347 (by decide +kernel) rfl) (za (zin 349 (by decide +kernel) rfl) (zn)))))
def RC7 : String := "VectorLanguage$Function"
def FC7 : u_T := fun k => match k with
  | 0 => ("VectorLanguage$Function", "body", "I", true)
  | 1 => ("VectorLanguage$Function", "parameters", "I", true)
  | 2 => ("VectorLanguage$Function", "first", "I", true)
  | _ => ("VectorLanguage$Function", "surroundings", "LVectorLanguage$Environment;", true)
def tC7 : Nat → FieldType := fun k => match k with
  | 0 => .int
  | 1 => .int
  | 2 => .int
  | _ => .object "VectorLanguage$Environment"
theorem tC7_ok : ∀ k, k < 4 → parseFieldDescriptor (FC7 k).2.2.1 = some (tC7 k) := by decide +kernel
theorem nC7 : ∀ a, a < 4 → ∀ b, b < 4 → a ≠ b → (FC7 a).2.1 ≠ (FC7 b).2.1 := by decide +kernel
abbrev dC7 : List Value := [.int 0, .int 0, .int 0, .null]
theorem dC7_ok : ∀ j, j < 4 → defaultValue (tC7 j) = vp_V dC7 j := by
  intro j hj
  rcases (show j = 0 ∨ j = 1 ∨ j = 2 ∨ j = 3 by omega) with rfl | rfl | rfl | rfl <;> rfl
theorem iC7 : ∀ w ∈ u_ws RC7 FC7 4, w ∈ zbig :=
  za (zin 532 (by decide +kernel) rfl) (za (zin 534 (by decide +kernel) rfl) (za (zin 536 (by decide +kernel) rfl) (za (zin 538 (by decide +kernel) rfl) (zn))))
def RC8 : String := "VectorLanguage$Argument"
def FC8 : u_T := fun k => match k with
  | 0 => ("VectorLanguage$Argument", "expression", "I", true)
  | 1 => ("VectorLanguage$Argument", "home", "LVectorLanguage$Environment;", true)
  | 2 => ("VectorLanguage$Argument", "known", "LVectorLanguage$Value;", false)
  | _ => ("VectorLanguage$Argument", "beingEvaluated", "Z", false)
def tC8 : Nat → FieldType := fun k => match k with
  | 0 => .int
  | 1 => .object "VectorLanguage$Environment"
  | 2 => .object "VectorLanguage$Value"
  | _ => .boolean
theorem tC8_ok : ∀ k, k < 4 → parseFieldDescriptor (FC8 k).2.2.1 = some (tC8 k) := by decide +kernel
theorem nC8 : ∀ a, a < 4 → ∀ b, b < 4 → a ≠ b → (FC8 a).2.1 ≠ (FC8 b).2.1 := by decide +kernel
abbrev dC8 : List Value := [.int 0, .null, .null, .int 0]
theorem dC8_ok : ∀ j, j < 4 → defaultValue (tC8 j) = vp_V dC8 j := by
  intro j hj
  rcases (show j = 0 ∨ j = 1 ∨ j = 2 ∨ j = 3 by omega) with rfl | rfl | rfl | rfl <;> rfl
theorem iC8 : ∀ w ∈ u_ws RC8 FC8 4, w ∈ zbig :=
  za (zin 560 (by decide +kernel) rfl) (za (zin 562 (by decide +kernel) rfl) (za (zin 564 (by decide +kernel) rfl) (za (zin 566 (by decide +kernel) rfl) (zn))))
def RC9 : String := "VectorLanguageModel"
def FC9 : u_T := fun k => match k with
  | 0 => ("VectorLanguageModel", "thrown", "I", false)
  | 1 => ("VectorLanguageModel", "kind", "[I", true)
  | 2 => ("VectorLanguageModel", "ea", "[I", true)
  | 3 => ("VectorLanguageModel", "eb", "[I", true)
  | 4 => ("VectorLanguageModel", "ec", "[I", true)
  | 5 => ("VectorLanguageModel", "expressions", "I", false)
  | 6 => ("VectorLanguageModel", "store", "[J", true)
  | 7 => ("VectorLanguageModel", "size", "[I", true)
  | 8 => ("VectorLanguageModel", "used", "[Z", true)
  | 9 => ("VectorLanguageModel", "next", "I", false)
  | 10 => ("VectorLanguageModel", "serial", "J", false)
  | 11 => ("VectorLanguageModel", "parent", "[I", true)
  | 12 => ("VectorLanguageModel", "function", "[I", true)
  | 13 => ("VectorLanguageModel", "supplied", "[I", true)
  | 14 => ("VectorLanguageModel", "made", "I", false)
  | 15 => ("VectorLanguageModel", "has", "[I", true)
  | 16 => ("VectorLanguageModel", "value", "[I", true)
  | 17 => ("VectorLanguageModel", "argument", "[I", true)
  | 18 => ("VectorLanguageModel", "argumentIn", "[I", true)
  | 19 => ("VectorLanguageModel", "work", "[I", true)
  | 20 => ("VectorLanguageModel", "in", "[I", true)
  | 21 => ("VectorLanguageModel", "state", "[I", true)
  | 22 => ("VectorLanguageModel", "va", "[I", true)
  | 23 => ("VectorLanguageModel", "vb", "[I", true)
  | 24 => ("VectorLanguageModel", "vc", "[I", true)
  | 25 => ("VectorLanguageModel", "top", "I", false)
  | 26 => ("VectorLanguageModel", "depth", "I", false)
  | 27 => ("VectorLanguageModel", "steps", "I", false)
  | 28 => ("VectorLanguageModel", "arguments", "I", false)
  | 29 => ("VectorLanguageModel", "error", "I", false)
  | 30 => ("VectorLanguageModel", "result", "I", false)
  | 31 => ("VectorLanguageModel", "failure", "I", false)
  | _ => ("VectorLanguageModel", "told", "[I", true)
def tC9 : Nat → FieldType := fun k => match k with
  | 0 => .int
  | 1 => .array (.int)
  | 2 => .array (.int)
  | 3 => .array (.int)
  | 4 => .array (.int)
  | 5 => .int
  | 6 => .array (.long)
  | 7 => .array (.int)
  | 8 => .array (.boolean)
  | 9 => .int
  | 10 => .long
  | 11 => .array (.int)
  | 12 => .array (.int)
  | 13 => .array (.int)
  | 14 => .int
  | 15 => .array (.int)
  | 16 => .array (.int)
  | 17 => .array (.int)
  | 18 => .array (.int)
  | 19 => .array (.int)
  | 20 => .array (.int)
  | 21 => .array (.int)
  | 22 => .array (.int)
  | 23 => .array (.int)
  | 24 => .array (.int)
  | 25 => .int
  | 26 => .int
  | 27 => .int
  | 28 => .int
  | 29 => .int
  | 30 => .int
  | 31 => .int
  | _ => .array (.int)
theorem tC9_ok : ∀ k, k < 33 → parseFieldDescriptor (FC9 k).2.2.1 = some (tC9 k) := by decide +kernel
theorem nC9 : ∀ a, a < 33 → ∀ b, b < 33 → a ≠ b → (FC9 a).2.1 ≠ (FC9 b).2.1 := by decide +kernel
abbrev dC9 : List Value := [.int 0, .null, .null, .null, .null, .int 0, .null, .null, .null, .int 0, .long 0, .null, .null, .null, .int 0, .null, .null, .null, .null, .null, .null, .null, .null, .null, .null, .int 0, .int 0, .int 0, .int 0, .int 0, .int 0, .int 0, .null]
theorem dC9_ok : ∀ j, j < 33 → defaultValue (tC9 j) = vp_V dC9 j := by
  intro j hj
  rcases (show j = 0 ∨ j = 1 ∨ j = 2 ∨ j = 3 ∨ j = 4 ∨ j = 5 ∨ j = 6 ∨ j = 7 ∨ j = 8 ∨ j = 9 ∨ j = 10 ∨ j = 11 ∨ j = 12 ∨ j = 13 ∨ j = 14 ∨ j = 15 ∨ j = 16 ∨ j = 17 ∨ j = 18 ∨ j = 19 ∨ j = 20 ∨ j = 21 ∨ j = 22 ∨ j = 23 ∨ j = 24 ∨ j = 25 ∨ j = 26 ∨ j = 27 ∨ j = 28 ∨ j = 29 ∨ j = 30 ∨ j = 31 ∨ j = 32 by omega) with rfl | rfl | rfl | rfl | rfl | rfl | rfl | rfl | rfl | rfl | rfl | rfl | rfl | rfl | rfl | rfl | rfl | rfl | rfl | rfl | rfl | rfl | rfl | rfl | rfl | rfl | rfl | rfl | rfl | rfl | rfl | rfl | rfl <;> rfl
theorem iC9 : ∀ w ∈ u_ws RC9 FC9 33, w ∈ zbig :=
  za (zin 788 (by decide +kernel) rfl) (za (zin 790 (by decide +kernel) rfl) (za (zin 792 (by decide +kernel) rfl) (za (zin 794 (by decide +kernel) rfl) (za (zin 796 (by decide +kernel) rfl) (za (zin 798 (by decide +kernel) rfl) (za (zin 800 (by decide +kernel) rfl) (za (zin 802 (by decide +kernel) rfl) (za (zin 804 (by decide +kernel) rfl) (za (zin 806 (by decide +kernel) rfl) (za (zin 808 (by decide +kernel) rfl) (za (zin 810 (by decide +kernel) rfl) (za (zin 812 (by decide +kernel) rfl) (za (zin 814 (by decide +kernel) rfl) (za (zin 816 (by decide +kernel) rfl) (za (zin 818 (by decide +kernel) rfl) (za (zin 820 (by decide +kernel) rfl) (za (zin 822 (by decide +kernel) rfl) (za (zin 824 (by decide +kernel) rfl) (za (zin 826 (by decide +kernel) rfl) (za (zin 828 (by decide +kernel) rfl) (za (zin 830 (by decide +kernel) rfl) (za (zin 832 (by decide +kernel) rfl) (za (zin 834 (by decide +kernel) rfl) (za (zin 836 (by decide +kernel) rfl) (za (zin 838 (by decide +kernel) rfl) (za (zin 840 (by decide +kernel) rfl) (za (zin 842 (by decide +kernel) rfl) (za (zin 844 (by decide +kernel) rfl) (za (zin 846 (by decide +kernel) rfl) (za (zin 848 (by decide +kernel) rfl) (za (zin 850 (by decide +kernel) rfl) (za (zin 852 (by decide +kernel) rfl) (zn)))))))))))))))))))))))))))))))))
abbrev zcls : List vw_C := [(RC0, FC0, 3), (RC1, FC1, 2), (RC2, FC2, 13), (RC3, FC3, 5), (RC4, FC4, 5), (RC5, FC5, 1), (RC6, FC6, 5), (RC7, FC7, 4), (RC8, FC8, 4), (RC9, FC9, 33)]
abbrev ztys (dA : Nat → ClassId) : List (ClassId × FieldType) := [(dA 0, .int), (dA 1, .long), (dA 2, .boolean), (dA 3, .object "VectorLanguage$Expression"), (dA 4, .object "VectorLanguage$Held")]
/-! the methods, by their numbers: name, bytes, locals, answer -/
def zmtl : List (MethodName × ByteArray × Nat × Option FieldType) := [
  (⟨"VectorLanguage", "<init>", "()V"⟩, prog_1_method_1_code, 1, none),
  (⟨"VectorLanguage$Program", "<init>", "()V"⟩, prog_10_method_1_code, 1, none),
  (⟨"VectorLanguage$Evaluator", "<init>", "(LVectorLanguage$Program;)V"⟩, prog_5_method_1_code, 2, none),
  (⟨"VectorLanguage$Environment", "<init>", "(LVectorLanguage$Function;I)V"⟩, prog_4_method_1_code, 3, none),
  (⟨"VectorLanguage$Places", "<init>", "()V"⟩, prog_9_method_1_code, 1, none),
  (⟨"VectorLanguage$Vector", "<init>", "([I)V"⟩, prog_12_method_1_code, 2, none),
  (⟨"VectorLanguage$Value", "<init>", "()V"⟩, prog_11_method_1_code, 1, none),
  (⟨"VectorLanguage$Held", "<init>", "()V"⟩, prog_8_method_1_code, 1, none),
  (⟨"VectorLanguage$Vector", "<init>", "(I)V"⟩, prog_12_method_2_code, 2, none),
  (⟨"VectorLanguage", "failure", "()I"⟩, prog_1_method_5_code, 1, (some .int)),
  (⟨"VectorLanguage", "reset", "()I"⟩, prog_1_method_8_code, 1, (some .int)),
  (⟨"VectorLanguage$Evaluator", "forget", "()I"⟩, prog_5_method_3_code, 2, (some .int)),
  (⟨"VectorLanguage$Environment", "clear", "()V"⟩, prog_4_method_4_code, 2, none),
  (⟨"VectorLanguage", "expression", "(IIII)I"⟩, prog_1_method_2_code, 5, (some .int)),
  (⟨"VectorLanguage$Program", "accepts", "(IIII)Z"⟩, prog_10_method_4_code, 5, (some .boolean)),
  (⟨"VectorLanguage", "isVariable", "(I)Z"⟩, prog_1_method_11_code, 1, (some .boolean)),
  (⟨"VectorLanguage$Program", "has", "(I)Z"⟩, prog_10_method_2_code, 2, (some .boolean)),
  (⟨"VectorLanguage$Program", "hasOrNone", "(I)Z"⟩, prog_10_method_5_code, 2, (some .boolean)),
  (⟨"VectorLanguage$Program", "acceptsParameters", "(II)Z"⟩, prog_10_method_7_code, 2, (some .boolean)),
  (⟨"VectorLanguage$Program", "acceptsArguments", "(II)Z"⟩, prog_10_method_6_code, 3, (some .boolean)),
  (⟨"VectorLanguage$Expression", "<init>", "(IIII)V"⟩, prog_6_method_1_code, 5, none),
  (⟨"VectorLanguage$Program", "add", "(LVectorLanguage$Expression;)I"⟩, prog_10_method_3_code, 2, (some .int)),
  (⟨"VectorLanguage", "run", "(I)I"⟩, prog_1_method_3_code, 3, (some .int)),
  (⟨"VectorLanguage$Evaluator", "perform", "(I)LVectorLanguage$Value;"⟩, prog_5_method_2_code, 3, (some (.object "VectorLanguage$Value"))),
  (⟨"VectorLanguage$Evaluator", "evaluate", "(ILVectorLanguage$Environment;I)LVectorLanguage$Value;"⟩, prog_5_method_4_code, 5, (some (.object "VectorLanguage$Value"))),
  (⟨"VectorLanguage$Evaluator", "fail", "(I)LVectorLanguage$Vector;"⟩, prog_5_method_5_code, 2, (some (.object "VectorLanguage$Vector"))),
  (⟨"VectorLanguage$Evaluator", "read", "(LVectorLanguage$Expression;LVectorLanguage$Environment;I)LVectorLanguage$Value;"⟩, prog_5_method_7_code, 5, (some (.object "VectorLanguage$Value"))),
  (⟨"VectorLanguage$Environment", "lookUp", "(I)LVectorLanguage$Held;"⟩, prog_4_method_2_code, 3, (some (.object "VectorLanguage$Held"))),
  (⟨"VectorLanguage$Evaluator", "valueOf", "(LVectorLanguage$Held;I)LVectorLanguage$Value;"⟩, prog_5_method_8_code, 4, (some (.object "VectorLanguage$Value"))),
  (⟨"VectorLanguage$Evaluator", "evaluateArgument", "(LVectorLanguage$Argument;I)LVectorLanguage$Value;"⟩, prog_5_method_9_code, 4, (some (.object "VectorLanguage$Value"))),
  (⟨"VectorLanguage$Evaluator", "assign", "(LVectorLanguage$Expression;LVectorLanguage$Environment;I)LVectorLanguage$Value;"⟩, prog_5_method_10_code, 6, (some (.object "VectorLanguage$Value"))),
  (⟨"VectorLanguage$Environment", "nearestAround", "(I)LVectorLanguage$Environment;"⟩, prog_4_method_3_code, 3, (some (.object "VectorLanguage$Environment"))),
  (⟨"VectorLanguage$Evaluator", "evaluateOfOne", "(LVectorLanguage$Expression;LVectorLanguage$Environment;I)LVectorLanguage$Value;"⟩, prog_5_method_12_code, 5, (some (.object "VectorLanguage$Value"))),
  (⟨"VectorLanguage$Evaluator", "elementsOf", "(ILVectorLanguage$Environment;I)[I"⟩, prog_5_method_11_code, 6, (some (.array .int))),
  (⟨"VectorLanguage$Evaluator", "negate", "([I)LVectorLanguage$Vector;"⟩, prog_5_method_13_code, 4, (some (.object "VectorLanguage$Vector"))),
  (⟨"VectorLanguage$Elements", "not", "(I)I"⟩, prog_3_method_5_code, 1, (some .int)),
  (⟨"VectorLanguage$Elements", "sum", "([I)I"⟩, prog_3_method_6_code, 7, (some .int)),
  (⟨"VectorLanguage$Elements", "inRange", "(J)I"⟩, prog_3_method_3_code, 2, (some .int)),
  (⟨"VectorLanguage$Elements", "first", "([I)I"⟩, prog_3_method_2_code, 1, (some .int)),
  (⟨"VectorLanguage$Evaluator", "raise", "(I)LVectorLanguage$Vector;"⟩, prog_5_method_14_code, 2, (some (.object "VectorLanguage$Vector"))),
  (⟨"VectorLanguage$Evaluator", "replace", "(LVectorLanguage$Expression;LVectorLanguage$Environment;I)LVectorLanguage$Value;"⟩, prog_5_method_21_code, 11, (some (.object "VectorLanguage$Value"))),
  (⟨"VectorLanguage$Evaluator", "store", "([I[ILVectorLanguage$Vector;LVectorLanguage$Environment;I)LVectorLanguage$Vector;"⟩, prog_5_method_22_code, 7, (some (.object "VectorLanguage$Vector"))),
  (⟨"VectorLanguage$Places", "find", "([IIZ)Z"⟩, prog_9_method_2_code, 4, (some .boolean)),
  (⟨"VectorLanguage$Places", "survey", "([I)V"⟩, prog_9_method_4_code, 6, none),
  (⟨"VectorLanguage$Places", "addThose", "([I)V"⟩, prog_9_method_5_code, 3, none),
  (⟨"VectorLanguage$Places", "addOthers", "([II)V"⟩, prog_9_method_6_code, 9, none),
  (⟨"VectorLanguage$Places", "reach", "()I"⟩, prog_9_method_3_code, 3, (some .int)),
  (⟨"java/lang/Math", "max", "(II)I"⟩, prog_21_method_65_code, 2, (some .int)),
  (⟨"VectorLanguage$Evaluator", "replaced", "([II[I)[I"⟩, prog_5_method_23_code, 6, (some (.array .int))),
  (⟨"java/util/Arrays", "copyOf", "([II)[I"⟩, prog_27_method_123_code, 3, (some (.array .int))),
  (⟨"java/lang/Math", "min", "(II)I"⟩, prog_21_method_69_code, 2, (some .int)),
  (⟨"VectorLanguage$Evaluator", "choose", "(LVectorLanguage$Expression;LVectorLanguage$Environment;I)LVectorLanguage$Value;"⟩, prog_5_method_25_code, 5, (some (.object "VectorLanguage$Value"))),
  (⟨"VectorLanguage$Evaluator", "condition", "(ILVectorLanguage$Environment;I)I"⟩, prog_5_method_24_code, 6, (some .int)),
  (⟨"VectorLanguage$Evaluator", "repeat", "(LVectorLanguage$Expression;LVectorLanguage$Environment;I)LVectorLanguage$Value;"⟩, prog_5_method_26_code, 6, (some (.object "VectorLanguage$Value"))),
  (⟨"VectorLanguage$Function", "<init>", "(IIILVectorLanguage$Environment;)V"⟩, prog_7_method_1_code, 5, none),
  (⟨"VectorLanguage$Evaluator", "call", "(LVectorLanguage$Expression;LVectorLanguage$Environment;I)LVectorLanguage$Value;"⟩, prog_5_method_27_code, 6, (some (.object "VectorLanguage$Value"))),
  (⟨"VectorLanguage$Evaluator", "enter", "(LVectorLanguage$Function;LVectorLanguage$Expression;LVectorLanguage$Environment;I)LVectorLanguage$Value;"⟩, prog_5_method_28_code, 8, (some (.object "VectorLanguage$Value"))),
  (⟨"VectorLanguage$Argument", "<init>", "(ILVectorLanguage$Environment;)V"⟩, prog_2_method_1_code, 3, none),
  (⟨"VectorLanguage$Evaluator", "takeEndValue", "(LVectorLanguage$Environment;)LVectorLanguage$Value;"⟩, prog_5_method_31_code, 3, (some (.object "VectorLanguage$Value"))),
  (⟨"VectorLanguage$Evaluator", "absent", "(LVectorLanguage$Expression;LVectorLanguage$Environment;)LVectorLanguage$Value;"⟩, prog_5_method_29_code, 3, (some (.object "VectorLanguage$Value"))),
  (⟨"VectorLanguage$Function", "hasParameter", "(I)Z"⟩, prog_7_method_3_code, 2, (some .boolean)),
  (⟨"VectorLanguage$Evaluator", "truth", "(Z)LVectorLanguage$Vector;"⟩, prog_5_method_6_code, 2, (some (.object "VectorLanguage$Vector"))),
  (⟨"VectorLanguage$Evaluator", "endCall", "(LVectorLanguage$Expression;LVectorLanguage$Environment;I)LVectorLanguage$Value;"⟩, prog_5_method_30_code, 5, (some (.object "VectorLanguage$Value"))),
  (⟨"VectorLanguage$Evaluator", "attempt", "(LVectorLanguage$Expression;LVectorLanguage$Environment;I)LVectorLanguage$Value;"⟩, prog_5_method_32_code, 5, (some (.object "VectorLanguage$Value"))),
  (⟨"VectorLanguage$Evaluator", "evaluateOfTwo", "(LVectorLanguage$Expression;LVectorLanguage$Environment;I)LVectorLanguage$Value;"⟩, prog_5_method_15_code, 8, (some (.object "VectorLanguage$Value"))),
  (⟨"VectorLanguage$Evaluator", "combine", "(LVectorLanguage$Expression;[I[I)LVectorLanguage$Vector;"⟩, prog_5_method_16_code, 4, (some (.object "VectorLanguage$Vector"))),
  (⟨"VectorLanguage$Evaluator", "join", "([I[I)LVectorLanguage$Vector;"⟩, prog_5_method_18_code, 4, (some (.object "VectorLanguage$Vector"))),
  (⟨"VectorLanguage$Evaluator", "range", "(II)LVectorLanguage$Vector;"⟩, prog_5_method_19_code, 6, (some (.object "VectorLanguage$Vector"))),
  (⟨"java/lang/Math", "abs", "(I)I"⟩, prog_21_method_59_code, 1, (some .int)),
  (⟨"VectorLanguage$Evaluator", "pick", "([I[I)LVectorLanguage$Vector;"⟩, prog_5_method_20_code, 6, (some (.object "VectorLanguage$Vector"))),
  (⟨"VectorLanguage$Elements", "same", "([I[I)Z"⟩, prog_3_method_7_code, 3, (some .boolean)),
  (⟨"VectorLanguage$Evaluator", "pairUp", "(LVectorLanguage$Expression;[I[I)LVectorLanguage$Vector;"⟩, prog_5_method_17_code, 6, (some (.object "VectorLanguage$Vector"))),
  (⟨"VectorLanguage$Elements", "pair", "(IIII)I"⟩, prog_3_method_4_code, 4, (some .int)),
  (⟨"VectorLanguage$Elements", "and", "(II)I"⟩, prog_3_method_8_code, 2, (some .int)),
  (⟨"VectorLanguage$Elements", "or", "(II)I"⟩, prog_3_method_9_code, 2, (some .int)),
  (⟨"VectorLanguage$Elements", "isTrue", "(I)Z"⟩, prog_3_method_10_code, 1, (some .boolean)),
  (⟨"VectorLanguage$Elements", "compare", "(III)I"⟩, prog_3_method_11_code, 3, (some .int)),
  (⟨"VectorLanguage$Elements", "calculate", "(III)I"⟩, prog_3_method_12_code, 3, (some .int)),
  (⟨"java/lang/Math", "floorDiv", "(II)I"⟩, prog_21_method_47_code, 3, (some .int)),
  (⟨"java/lang/Math", "floorMod", "(II)I"⟩, prog_21_method_50_code, 3, (some .int)),
  (⟨"VectorLanguage", "refuse", "(I)I"⟩, prog_1_method_10_code, 1, (some .int)),
  (⟨"VectorLanguage$Function", "size", "()I"⟩, prog_7_method_2_code, 1, (some .int)),
  (⟨"VectorLanguage$Vector", "size", "()I"⟩, prog_12_method_3_code, 1, (some .int)),
  (⟨"VectorLanguage", "element", "(I)I"⟩, prog_1_method_4_code, 4, (some .int)),
  (⟨"VectorLanguage$Vector", "hasPlace", "(I)Z"⟩, prog_12_method_4_code, 2, (some .boolean)),
  (⟨"VectorLanguage", "variable", "(I)I"⟩, prog_1_method_6_code, 4, (some .int)),
  (⟨"VectorLanguage", "value", "(II)I"⟩, prog_1_method_7_code, 5, (some .int)),
  (⟨"VectorLanguage", "count", "(I)I"⟩, prog_1_method_9_code, 2, (some .int)),
  (⟨"VectorLanguageModel", "<init>", "()V"⟩, prog_14_method_1_code, 1, none),
  (⟨"VectorLanguageModel", "thrown", "()I"⟩, prog_14_method_2_code, 1, (some .int)),
  (⟨"VectorLanguageModel", "expression", "(IIII)I"⟩, prog_14_method_7_code, 5, (some .int)),
  (⟨"VectorLanguageModel", "fits", "(IIII)Z"⟩, prog_14_method_6_code, 5, (some .boolean)),
  (⟨"VectorLanguageModel", "between", "(III)Z"⟩, prog_14_method_4_code, 3, (some .boolean)),
  (⟨"VectorLanguageModel", "made", "(I)Z"⟩, prog_14_method_5_code, 2, (some .boolean)),
  (⟨"VectorLanguageModel", "raise", "(I)I"⟩, prog_14_method_3_code, 2, (some .int)),
  (⟨"VectorLanguageModel", "run", "(I)I"⟩, prog_14_method_53_code, 3, (some .int)),
  (⟨"VectorLanguageModel", "begin", "(II)V"⟩, prog_14_method_30_code, 3, none),
  (⟨"VectorLanguageModel", "pile", "(III)V"⟩, prog_14_method_31_code, 4, none),
  (⟨"VectorLanguageModel", "advance", "()V"⟩, prog_14_method_51_code, 5, none),
  (⟨"VectorLanguageModel", "parts", "(I)I"⟩, prog_14_method_49_code, 1, (some .int)),
  (⟨"VectorLanguageModel", "part", "(II)I"⟩, prog_14_method_50_code, 4, (some .int)),
  (⟨"VectorLanguageModel", "one", "(I)I"⟩, prog_14_method_13_code, 3, (some .int)),
  (⟨"VectorLanguageModel", "fresh", "(I)I"⟩, prog_14_method_10_code, 3, (some .int)),
  (⟨"VectorLanguageModel", "sweep", "()V"⟩, prog_14_method_9_code, 2, none),
  (⟨"VectorLanguageModel", "mark", "(I)V"⟩, prog_14_method_8_code, 2, none),
  (⟨"VectorLanguageModel", "set", "(III)V"⟩, prog_14_method_12_code, 7, none),
  (⟨"VectorLanguageModel", "over", "(I)V"⟩, prog_14_method_33_code, 3, none),
  (⟨"VectorLanguageModel", "look", "(II)V"⟩, prog_14_method_47_code, 5, none),
  (⟨"VectorLanguageModel", "place", "(II)I"⟩, prog_14_method_34_code, 4, (some .int)),
  (⟨"VectorLanguageModel", "wanted", "(I)I"⟩, prog_14_method_35_code, 2, (some .int)),
  (⟨"VectorLanguageModel", "assign", "(II)V"⟩, prog_14_method_43_code, 5, none),
  (⟨"VectorLanguageModel", "give", "(III)V"⟩, prog_14_method_36_code, 4, none),
  (⟨"VectorLanguageModel", "replace", "(II)V"⟩, prog_14_method_44_code, 5, none),
  (⟨"VectorLanguageModel", "replaced", "(III)I"⟩, prog_14_method_28_code, 8, (some .int)),
  (⟨"VectorLanguageModel", "indexes", "(II)I"⟩, prog_14_method_26_code, 9, (some .int)),
  (⟨"VectorLanguageModel", "at", "(II)I"⟩, prog_14_method_11_code, 3, (some .int)),
  (⟨"VectorLanguageModel", "leaves", "(II)Z"⟩, prog_14_method_25_code, 4, (some .boolean)),
  (⟨"VectorLanguageModel", "condition", "(II)V"⟩, prog_14_method_48_code, 6, none),
  (⟨"VectorLanguageModel", "holds", "(I)Z"⟩, prog_14_method_41_code, 2, (some .boolean)),
  (⟨"VectorLanguageModel", "function", "(II)V"⟩, prog_14_method_37_code, 4, none),
  (⟨"VectorLanguageModel", "call", "(I)V"⟩, prog_14_method_39_code, 7, none),
  (⟨"VectorLanguageModel", "argue", "(IIII)V"⟩, prog_14_method_38_code, 5, none),
  (⟨"VectorLanguageModel", "missing", "(II)V"⟩, prog_14_method_42_code, 5, none),
  (⟨"VectorLanguageModel", "leave", "(II)V"⟩, prog_14_method_40_code, 5, none),
  (⟨"VectorLanguageModel", "drop", "()V"⟩, prog_14_method_32_code, 1, none),
  (⟨"VectorLanguageModel", "complain", "(I)V"⟩, prog_14_method_46_code, 3, none),
  (⟨"VectorLanguageModel", "worked", "(II)I"⟩, prog_14_method_45_code, 5, (some .int)),
  (⟨"VectorLanguageModel", "same", "(II)Z"⟩, prog_14_method_29_code, 4, (some .boolean)),
  (⟨"VectorLanguageModel", "failed", "(I)I"⟩, prog_14_method_21_code, 2, (some .int)),
  (⟨"VectorLanguageModel", "pairwise", "(IIII)I"⟩, prog_14_method_19_code, 10, (some .int)),
  (⟨"VectorLanguageModel", "arithmetic", "(III)I"⟩, prog_14_method_16_code, 5, (some .int)),
  (⟨"VectorLanguageModel", "limited", "(J)I"⟩, prog_14_method_14_code, 2, (some .int)),
  (⟨"VectorLanguageModel", "down", "(JJ)J"⟩, prog_14_method_15_code, 4, (some .long)),
  (⟨"VectorLanguageModel", "compare", "(III)I"⟩, prog_14_method_17_code, 3, (some .int)),
  (⟨"VectorLanguageModel", "logic", "(III)I"⟩, prog_14_method_18_code, 5, (some .int)),
  (⟨"VectorLanguageModel", "not", "(I)I"⟩, prog_14_method_20_code, 4, (some .int)),
  (⟨"VectorLanguageModel", "joined", "(II)I"⟩, prog_14_method_22_code, 6, (some .int)),
  (⟨"VectorLanguageModel", "range", "(II)I"⟩, prog_14_method_23_code, 8, (some .int)),
  (⟨"VectorLanguageModel", "picked", "(II)I"⟩, prog_14_method_27_code, 6, (some .int)),
  (⟨"VectorLanguageModel", "sum", "(I)I"⟩, prog_14_method_24_code, 5, (some .int)),
  (⟨"VectorLanguageModel", "unwind", "()V"⟩, prog_14_method_52_code, 4, none),
  (⟨"VectorLanguageModel", "element", "(I)I"⟩, prog_14_method_54_code, 2, (some .int)),
  (⟨"VectorLanguageModel", "failure", "()I"⟩, prog_14_method_55_code, 1, (some .int)),
  (⟨"VectorLanguageModel", "variable", "(I)I"⟩, prog_14_method_56_code, 2, (some .int)),
  (⟨"VectorLanguageModel", "value", "(II)I"⟩, prog_14_method_57_code, 3, (some .int)),
  (⟨"VectorLanguageModel", "reset", "()I"⟩, prog_14_method_58_code, 3, (some .int)),
  (⟨"VectorLanguageModel", "count", "(I)I"⟩, prog_14_method_59_code, 2, (some .int))]
def zmt : zMt := fun μ => (zmtl[μ]?).getD (⟨"", "", ""⟩, ⟨#[]⟩, 0, none)
def zOK (l : Launch) (D : va_G) (dA : Nat → ClassId) (b0 μ pc : Nat) (tr : zP → zP) : Prop := zMono tr ∧ zS l zmt zbig znst D zcls (ztys dA) b0 μ pc tr
theorem zap {l : Launch} {D : va_G} {dA : Nat → ClassId} {b0 μ pc : Nat} {tr : zP → zP} {L : List (Nat × (zP → zP))} (h1 : zMono tr) (h2 : zS l zmt zbig znst D zcls (ztys dA) b0 μ pc tr) (t : ∀ q ∈ L, zOK l D dA b0 μ q.1 q.2) : ∀ q ∈ (pc, tr) :: L, zOK l D dA b0 μ q.1 q.2 := List.forall_mem_cons.mpr ⟨⟨h1, h2⟩, t⟩
end
section
/-- VectorLanguage.<init>()V -/
def tb0 (_ : List (ClassId × FieldType)) : List (Nat × (zP → zP)) := [(0, zi (gAl 0) 1), (1, zobj), (4, zi (gAl 0) 1), (5, znew 1 2 dC1), (8, zi (gDup) 1), (9, zcI 1 1 0), (12, zput (.object "VectorLanguage$Program") 0 0), (15, zi (gAl 0) 1), (16, znew 2 13 dC2), (19, zi (gDup) 1), (20, zi (gAl 0) 1), (21, zget 0 0), (24, zcI 2 2 1), (27, zput (.object "VectorLanguage$Evaluator") 0 1), (30, zi (gAl 0) 1), (31, zi (gC .null) 1), (32, zput (.object "VectorLanguage$Value") 0 2), (35, zretV)]
set_option maxRecDepth 100000 in
theorem ok0 (l : Launch) (D : va_G) (dA : Nat → ClassId) (b0 : Nat) : ∀ q ∈ tb0 (ztys dA), zOK l D dA b0 0 q.1 q.2 := by
  refine zap (zi_mono _ _) (zi_ok (zg_aload_n (j := 0) (by decide +kernel) rfl)) ?_
  refine zap (zobj_mono) (zobj_ok (idx := 1) (by decide +kernel) (zin 31 (by decide +kernel) rfl) (zin 32 (by decide +kernel) rfl) (zin 33 (by decide +kernel) rfl)) ?_
  refine zap (zi_mono _ _) (zi_ok (zg_aload_n (j := 0) (by decide +kernel) rfl)) ?_
  refine zap (znew_mono _ _ _) (znew_ok (index := 7) (C := RC1) (T := FC1) tC1 (by decide +kernel) rfl iC1 tC1_ok (zin 34 (by decide +kernel) rfl) (zin 35 (by decide +kernel) rfl) (zin 2 (by decide +kernel) rfl) dC1_ok) ?_
  refine zap (zi_mono _ _) (zi_ok (zg_dup (by decide +kernel))) ?_
  refine zap (zcI_mono _ _ _) (zcIN_ok znst_st (μ' := 1) (na := 0) (index := 9) (host := "VectorLanguage") (by decide +kernel) (by decide +kernel) rfl rfl (zgI (zin 38 (by decide +kernel) rfl)) (List.mem_of_getElem? (i := 0) rfl) (zin 2 (by decide +kernel) rfl) (zin 37 (by decide +kernel) rfl) (by decide +kernel) (by decide +kernel)) ?_
  refine zap (zput_mono _ _ _) (zput_ok (index := 10) (C := RC0) (ref := "VectorLanguage") (T := FC0) (NN := 3) tC0 (by decide +kernel) rfl iC0 tC0_ok nC0 (by decide +kernel) (zin 177 (by decide +kernel) rfl) rfl (Or.inr ⟨rfl, rfl, rfl⟩) rfl) ?_
  refine zap (zi_mono _ _) (zi_ok (zg_aload_n (j := 0) (by decide +kernel) rfl)) ?_
  refine zap (znew_mono _ _ _) (znew_ok (index := 16) (C := RC2) (T := FC2) tC2 (by decide +kernel) rfl iC2 tC2_ok (zin 51 (by decide +kernel) rfl) (zin 52 (by decide +kernel) rfl) (zin 3 (by decide +kernel) rfl) dC2_ok) ?_
  refine zap (zi_mono _ _) (zi_ok (zg_dup (by decide +kernel))) ?_
  refine zap (zi_mono _ _) (zi_ok (zg_aload_n (j := 0) (by decide +kernel) rfl)) ?_
  refine zap (zget_mono _ _) (zget_ok (index := 10) (C := RC0) (ref := "VectorLanguage") (T := FC0) (NN := 3) (by decide +kernel) rfl iC0 (by decide +kernel) (zin 177 (by decide +kernel) rfl) rfl) ?_
  refine zap (zcI_mono _ _ _) (zcI_ok znst_st (μ' := 2) (na := 1) (index := 18) (by decide +kernel) (by decide +kernel) rfl rfl (zgI (zin 55 (by decide +kernel) rfl)) (zin 3 (by decide +kernel) rfl) (zin 53 (by decide +kernel) rfl) (zin 54 (by decide +kernel) rfl) (by decide +kernel) (by decide +kernel)) ?_
  refine zap (zput_mono _ _ _) (zput_ok (index := 21) (C := RC0) (ref := "VectorLanguage") (T := FC0) (NN := 3) tC0 (by decide +kernel) rfl iC0 tC0_ok nC0 (by decide +kernel) (zin 178 (by decide +kernel) rfl) rfl (Or.inr ⟨rfl, rfl, rfl⟩) rfl) ?_
  refine zap (zi_mono _ _) (zi_ok (zg_aload_n (j := 0) (by decide +kernel) rfl)) ?_
  refine zap (zi_mono _ _) (zi_ok (zg_null (by decide +kernel))) ?_
  refine zap (zput_mono _ _ _) (zput_ok (index := 25) (C := RC0) (ref := "VectorLanguage") (T := FC0) (NN := 3) tC0 (by decide +kernel) rfl iC0 tC0_ok nC0 (by decide +kernel) (zin 179 (by decide +kernel) rfl) rfl (Or.inl rfl) rfl) ?_
  refine zap (zretV_mono) (zretV_ok (by decide +kernel) rfl) ?_
  exact zn
/-- VectorLanguage$Program.<init>()V -/
def tb1 (tys : List (ClassId × FieldType)) : List (Nat × (zP → zP)) := [(0, zi (gAl 0) 1), (1, zobj), (4, zi (gAl 0) 1), (5, zi (gC (.int (120))) 2), (7, znewq tys "VectorLanguage$Expression"), (10, zput (.array (.object "VectorLanguage$Expression")) 1 0), (13, zretV)]
set_option maxRecDepth 100000 in
theorem ok1 (l : Launch) (D : va_G) (dA : Nat → ClassId) (b0 : Nat) : ∀ q ∈ tb1 (ztys dA), zOK l D dA b0 1 q.1 q.2 := by
  refine zap (zi_mono _ _) (zi_ok (zg_aload_n (j := 0) (by decide +kernel) rfl)) ?_
  refine zap (zobj_mono) (zobj_ok (idx := 3) (by decide +kernel) (zin 39 (by decide +kernel) rfl) (zin 32 (by decide +kernel) rfl) (zin 33 (by decide +kernel) rfl)) ?_
  refine zap (zi_mono _ _) (zi_ok (zg_aload_n (j := 0) (by decide +kernel) rfl)) ?_
  refine zap (zi_mono _ _) (zi_ok (zg_bipush (n := 120) (by decide +kernel) (by decide +kernel))) ?_
  refine zap (znewq_mono _ _) (znewq_ok (index := 9) (by decide +kernel) (zin 40 (by decide +kernel) rfl) (List.mem_of_getElem? (i := 17) rfl)) ?_
  refine zap (zput_mono _ _ _) (zput_ok (index := 11) (C := RC1) (ref := "VectorLanguage$Program") (T := FC1) (NN := 2) tC1 (by decide +kernel) rfl iC1 tC1_ok nC1 (by decide +kernel) (zin 42 (by decide +kernel) rfl) rfl (Or.inr ⟨rfl, rfl, rfl⟩) rfl) ?_
  refine zap (zretV_mono) (zretV_ok (by decide +kernel) rfl) ?_
  exact zn
/-- VectorLanguage$Evaluator.<init>(LVectorLanguage$Program;)V -/
def tb2 (tys : List (ClassId × FieldType)) : List (Nat × (zP → zP)) := [(0, zi (gAl 0) 1), (1, zobj), (4, zi (gAl 0) 1), (5, znew 3 5 dC3), (8, zi (gDup) 1), (9, zi (gC .null) 1), (10, zi (gC (.int (0))) 1), (11, zcI 3 3 2), (14, zput (.object "VectorLanguage$Environment") 2 1), (17, zi (gAl 0) 1), (18, znew 4 5 dC4), (21, zi (gDup) 1), (22, zcI 1 4 0), (25, zput (.object "VectorLanguage$Places") 2 8), (28, zi (gAl 0) 1), (29, znew 5 1 dC5), (32, zi (gDup) 1), (33, zi (gC (.int (0))) 1), (34, znewi tys), (36, zcI 2 5 1), (39, zput (.object "VectorLanguage$Vector") 2 9), (42, zi (gAl 0) 1), (43, znew 5 1 dC5), (46, zi (gDup) 1), (47, zi (gC (.int (-2147483648))) 2), (49, zcI 2 8 1), (52, zput (.object "VectorLanguage$Vector") 2 10), (55, zi (gAl 0) 1), (56, znew 5 1 dC5), (59, zi (gDup) 1), (60, zi (gC (.int (0))) 1), (61, zcI 2 8 1), (64, zput (.object "VectorLanguage$Vector") 2 11), (67, zi (gAl 0) 1), (68, znew 5 1 dC5), (71, zi (gDup) 1), (72, zi (gC (.int (1))) 1), (73, zcI 2 8 1), (76, zput (.object "VectorLanguage$Vector") 2 12), (79, zi (gAl 0) 1), (80, zi (gAl 1) 1), (81, zput (.object "VectorLanguage$Program") 2 0), (84, zretV)]
set_option maxRecDepth 100000 in
theorem ok2 (l : Launch) (D : va_G) (dA : Nat → ClassId) (b0 : Nat) : ∀ q ∈ tb2 (ztys dA), zOK l D dA b0 2 q.1 q.2 := by
  refine zap (zi_mono _ _) (zi_ok (zg_aload_n (j := 0) (by decide +kernel) rfl)) ?_
  refine zap (zobj_mono) (zobj_ok (idx := 3) (by decide +kernel) (zin 56 (by decide +kernel) rfl) (zin 32 (by decide +kernel) rfl) (zin 33 (by decide +kernel) rfl)) ?_
  refine zap (zi_mono _ _) (zi_ok (zg_aload_n (j := 0) (by decide +kernel) rfl)) ?_
  refine zap (znew_mono _ _ _) (znew_ok (index := 9) (C := RC3) (T := FC3) tC3 (by decide +kernel) rfl iC3 tC3_ok (zin 57 (by decide +kernel) rfl) (zin 58 (by decide +kernel) rfl) (zin 4 (by decide +kernel) rfl) dC3_ok) ?_
  refine zap (zi_mono _ _) (zi_ok (zg_dup (by decide +kernel))) ?_
  refine zap (zi_mono _ _) (zi_ok (zg_null (by decide +kernel))) ?_
  refine zap (zi_mono _ _) (zi_ok (zg_iconst (n := 0) (by decide +kernel) (by decide +kernel))) ?_
  refine zap (zcI_mono _ _ _) (zcI_ok znst_st (μ' := 3) (na := 2) (index := 11) (by decide +kernel) (by decide +kernel) rfl rfl (zgI (zin 61 (by decide +kernel) rfl)) (zin 4 (by decide +kernel) rfl) (zin 59 (by decide +kernel) rfl) (zin 60 (by decide +kernel) rfl) (by decide +kernel) (by decide +kernel)) ?_
  refine zap (zput_mono _ _ _) (zput_ok (index := 14) (C := RC2) (ref := "VectorLanguage$Evaluator") (T := FC2) (NN := 13) tC2 (by decide +kernel) rfl iC2 tC2_ok nC2 (by decide +kernel) (zin 133 (by decide +kernel) rfl) rfl (Or.inr ⟨rfl, rfl, rfl⟩) rfl) ?_
  refine zap (zi_mono _ _) (zi_ok (zg_aload_n (j := 0) (by decide +kernel) rfl)) ?_
  refine zap (znew_mono _ _ _) (znew_ok (index := 20) (C := RC4) (T := FC4) tC4 (by decide +kernel) rfl iC4 tC4_ok (zin 85 (by decide +kernel) rfl) (zin 86 (by decide +kernel) rfl) (zin 5 (by decide +kernel) rfl) dC4_ok) ?_
  refine zap (zi_mono _ _) (zi_ok (zg_dup (by decide +kernel))) ?_
  refine zap (zcI_mono _ _ _) (zcIN_ok znst_st (μ' := 4) (na := 0) (index := 22) (host := "VectorLanguage") (by decide +kernel) (by decide +kernel) rfl rfl (zgI (zin 89 (by decide +kernel) rfl)) (List.mem_of_getElem? (i := 1) rfl) (zin 5 (by decide +kernel) rfl) (zin 88 (by decide +kernel) rfl) (by decide +kernel) (by decide +kernel)) ?_
  refine zap (zput_mono _ _ _) (zput_ok (index := 23) (C := RC2) (ref := "VectorLanguage$Evaluator") (T := FC2) (NN := 13) tC2 (by decide +kernel) rfl iC2 tC2_ok nC2 (by decide +kernel) (zin 145 (by decide +kernel) rfl) rfl (Or.inr ⟨rfl, rfl, rfl⟩) rfl) ?_
  refine zap (zi_mono _ _) (zi_ok (zg_aload_n (j := 0) (by decide +kernel) rfl)) ?_
  refine zap (znew_mono _ _ _) (znew_ok (index := 27) (C := RC5) (T := FC5) tC5 (by decide +kernel) rfl iC5 tC5_ok (zin 110 (by decide +kernel) rfl) (zin 111 (by decide +kernel) rfl) (zin 8 (by decide +kernel) rfl) dC5_ok) ?_
  refine zap (zi_mono _ _) (zi_ok (zg_dup (by decide +kernel))) ?_
  refine zap (zi_mono _ _) (zi_ok (zg_iconst (n := 0) (by decide +kernel) (by decide +kernel))) ?_
  refine zap (znewi_mono _) (znewi_ok (by decide +kernel) (zin 109 (by decide +kernel) rfl)) ?_
  refine zap (zcI_mono _ _ _) (zcI_ok znst_st (μ' := 5) (na := 1) (index := 29) (by decide +kernel) (by decide +kernel) rfl rfl (zgI (zin 114 (by decide +kernel) rfl)) (zin 8 (by decide +kernel) rfl) (zin 112 (by decide +kernel) rfl) (zin 113 (by decide +kernel) rfl) (by decide +kernel) (by decide +kernel)) ?_
  refine zap (zput_mono _ _ _) (zput_ok (index := 32) (C := RC2) (ref := "VectorLanguage$Evaluator") (T := FC2) (NN := 13) tC2 (by decide +kernel) rfl iC2 tC2_ok nC2 (by decide +kernel) (zin 146 (by decide +kernel) rfl) rfl (Or.inr ⟨rfl, rfl, rfl⟩) rfl) ?_
  refine zap (zi_mono _ _) (zi_ok (zg_aload_n (j := 0) (by decide +kernel) rfl)) ?_
  refine zap (znew_mono _ _ _) (znew_ok (index := 27) (C := RC5) (T := FC5) tC5 (by decide +kernel) rfl iC5 tC5_ok (zin 110 (by decide +kernel) rfl) (zin 111 (by decide +kernel) rfl) (zin 8 (by decide +kernel) rfl) dC5_ok) ?_
  refine zap (zi_mono _ _) (zi_ok (zg_dup (by decide +kernel))) ?_
  refine zap (zi_mono _ _) (zi_ok (zg_ldc (index := 36) (by decide +kernel) (zin 128 (by decide +kernel) rfl))) ?_
  refine zap (zcI_mono _ _ _) (zcI_ok znst_st (μ' := 8) (na := 1) (index := 37) (by decide +kernel) (by decide +kernel) rfl rfl (zgI (zin 131 (by decide +kernel) rfl)) (zin 8 (by decide +kernel) rfl) (zin 129 (by decide +kernel) rfl) (zin 130 (by decide +kernel) rfl) (by decide +kernel) (by decide +kernel)) ?_
  refine zap (zput_mono _ _ _) (zput_ok (index := 40) (C := RC2) (ref := "VectorLanguage$Evaluator") (T := FC2) (NN := 13) tC2 (by decide +kernel) rfl iC2 tC2_ok nC2 (by decide +kernel) (zin 147 (by decide +kernel) rfl) rfl (Or.inr ⟨rfl, rfl, rfl⟩) rfl) ?_
  refine zap (zi_mono _ _) (zi_ok (zg_aload_n (j := 0) (by decide +kernel) rfl)) ?_
  refine zap (znew_mono _ _ _) (znew_ok (index := 27) (C := RC5) (T := FC5) tC5 (by decide +kernel) rfl iC5 tC5_ok (zin 110 (by decide +kernel) rfl) (zin 111 (by decide +kernel) rfl) (zin 8 (by decide +kernel) rfl) dC5_ok) ?_
  refine zap (zi_mono _ _) (zi_ok (zg_dup (by decide +kernel))) ?_
  refine zap (zi_mono _ _) (zi_ok (zg_iconst (n := 0) (by decide +kernel) (by decide +kernel))) ?_
  refine zap (zcI_mono _ _ _) (zcI_ok znst_st (μ' := 8) (na := 1) (index := 37) (by decide +kernel) (by decide +kernel) rfl rfl (zgI (zin 131 (by decide +kernel) rfl)) (zin 8 (by decide +kernel) rfl) (zin 129 (by decide +kernel) rfl) (zin 130 (by decide +kernel) rfl) (by decide +kernel) (by decide +kernel)) ?_
  refine zap (zput_mono _ _ _) (zput_ok (index := 43) (C := RC2) (ref := "VectorLanguage$Evaluator") (T := FC2) (NN := 13) tC2 (by decide +kernel) rfl iC2 tC2_ok nC2 (by decide +kernel) (zin 148 (by decide +kernel) rfl) rfl (Or.inr ⟨rfl, rfl, rfl⟩) rfl) ?_
  refine zap (zi_mono _ _) (zi_ok (zg_aload_n (j := 0) (by decide +kernel) rfl)) ?_
  refine zap (znew_mono _ _ _) (znew_ok (index := 27) (C := RC5) (T := FC5) tC5 (by decide +kernel) rfl iC5 tC5_ok (zin 110 (by decide +kernel) rfl) (zin 111 (by decide +kernel) rfl) (zin 8 (by decide +kernel) rfl) dC5_ok) ?_
  refine zap (zi_mono _ _) (zi_ok (zg_dup (by decide +kernel))) ?_
  refine zap (zi_mono _ _) (zi_ok (zg_iconst (n := 1) (by decide +kernel) (by decide +kernel))) ?_
  refine zap (zcI_mono _ _ _) (zcI_ok znst_st (μ' := 8) (na := 1) (index := 37) (by decide +kernel) (by decide +kernel) rfl rfl (zgI (zin 131 (by decide +kernel) rfl)) (zin 8 (by decide +kernel) rfl) (zin 129 (by decide +kernel) rfl) (zin 130 (by decide +kernel) rfl) (by decide +kernel) (by decide +kernel)) ?_
  refine zap (zput_mono _ _ _) (zput_ok (index := 46) (C := RC2) (ref := "VectorLanguage$Evaluator") (T := FC2) (NN := 13) tC2 (by decide +kernel) rfl iC2 tC2_ok nC2 (by decide +kernel) (zin 149 (by decide +kernel) rfl) rfl (Or.inr ⟨rfl, rfl, rfl⟩) rfl) ?_
  refine zap (zi_mono _ _) (zi_ok (zg_aload_n (j := 0) (by decide +kernel) rfl)) ?_
  refine zap (zi_mono _ _) (zi_ok (zg_aload_n (j := 1) (by decide +kernel) rfl)) ?_
  refine zap (zput_mono _ _ _) (zput_ok (index := 49) (C := RC2) (ref := "VectorLanguage$Evaluator") (T := FC2) (NN := 13) tC2 (by decide +kernel) rfl iC2 tC2_ok nC2 (by decide +kernel) (zin 132 (by decide +kernel) rfl) rfl (Or.inr ⟨rfl, rfl, rfl⟩) rfl) ?_
  refine zap (zretV_mono) (zretV_ok (by decide +kernel) rfl) ?_
  exact zn
/-- VectorLanguage$Environment.<init>(LVectorLanguage$Function;I)V -/
def tb3 (tys : List (ClassId × FieldType)) : List (Nat × (zP → zP)) := [(0, zi (gAl 0) 1), (1, zobj), (4, zi (gAl 0) 1), (5, zi (gC (.int (10))) 2), (7, znewq tys "VectorLanguage$Held"), (10, zput (.array (.object "VectorLanguage$Held")) 3 0), (13, zi (gAl 0) 1), (14, zi (gAl 1) 1), (15, zput (.object "VectorLanguage$Function") 3 2), (18, zi (gAl 0) 1), (19, zi (gIl 2) 1), (20, zput (.int) 3 3), (23, zi (gAl 0) 1), (24, zi (gAl 1) 1), (25, zb (cNN) 32), (28, zi (gC .null) 1), (29, zj 36), (32, zi (gAl 1) 1), (33, zget 7 3), (36, zput (.object "VectorLanguage$Environment") 3 1), (39, zretV)]
set_option maxRecDepth 100000 in
theorem ok3 (l : Launch) (D : va_G) (dA : Nat → ClassId) (b0 : Nat) : ∀ q ∈ tb3 (ztys dA), zOK l D dA b0 3 q.1 q.2 := by
  refine zap (zi_mono _ _) (zi_ok (zg_aload_n (j := 0) (by decide +kernel) rfl)) ?_
  refine zap (zobj_mono) (zobj_ok (idx := 3) (by decide +kernel) (zin 62 (by decide +kernel) rfl) (zin 32 (by decide +kernel) rfl) (zin 33 (by decide +kernel) rfl)) ?_
  refine zap (zi_mono _ _) (zi_ok (zg_aload_n (j := 0) (by decide +kernel) rfl)) ?_
  refine zap (zi_mono _ _) (zi_ok (zg_bipush (n := 10) (by decide +kernel) (by decide +kernel))) ?_
  refine zap (znewq_mono _ _) (znewq_ok (index := 9) (by decide +kernel) (zin 63 (by decide +kernel) rfl) (List.mem_of_getElem? (i := 18) rfl)) ?_
  refine zap (zput_mono _ _ _) (zput_ok (index := 11) (C := RC3) (ref := "VectorLanguage$Environment") (T := FC3) (NN := 5) tC3 (by decide +kernel) rfl iC3 tC3_ok nC3 (by decide +kernel) (zin 65 (by decide +kernel) rfl) rfl (Or.inr ⟨rfl, rfl, rfl⟩) rfl) ?_
  refine zap (zi_mono _ _) (zi_ok (zg_aload_n (j := 0) (by decide +kernel) rfl)) ?_
  refine zap (zi_mono _ _) (zi_ok (zg_aload_n (j := 1) (by decide +kernel) rfl)) ?_
  refine zap (zput_mono _ _ _) (zput_ok (index := 17) (C := RC3) (ref := "VectorLanguage$Environment") (T := FC3) (NN := 5) tC3 (by decide +kernel) rfl iC3 tC3_ok nC3 (by decide +kernel) (zin 69 (by decide +kernel) rfl) rfl (Or.inr ⟨rfl, rfl, rfl⟩) rfl) ?_
  refine zap (zi_mono _ _) (zi_ok (zg_aload_n (j := 0) (by decide +kernel) rfl)) ?_
  refine zap (zi_mono _ _) (zi_ok (zg_iload_n (j := 2) (by decide +kernel) rfl)) ?_
  refine zap (zput_mono _ _ _) (zput_ok (index := 21) (C := RC3) (ref := "VectorLanguage$Environment") (T := FC3) (NN := 5) tC3 (by decide +kernel) rfl iC3 tC3_ok nC3 (by decide +kernel) (zin 71 (by decide +kernel) rfl) rfl (Or.inr ⟨rfl, rfl, rfl⟩) rfl) ?_
  refine zap (zi_mono _ _) (zi_ok (zg_aload_n (j := 0) (by decide +kernel) rfl)) ?_
  refine zap (zi_mono _ _) (zi_ok (zg_aload_n (j := 1) (by decide +kernel) rfl)) ?_
  refine zap (zb_mono _ _) (zb_ok (zb_nonnull (off := 7) (by decide +kernel) (by decide +kernel))) ?_
  refine zap (zi_mono _ _) (zi_ok (zg_null (by decide +kernel))) ?_
  refine zap (zj_mono _) (zj_ok (off := 7) (by decide +kernel) (by decide +kernel)) ?_
  refine zap (zi_mono _ _) (zi_ok (zg_aload_n (j := 1) (by decide +kernel) rfl)) ?_
  refine zap (zget_mono _ _) (zget_ok (index := 25) (C := RC7) (ref := "VectorLanguage$Function") (T := FC7) (NN := 4) (by decide +kernel) rfl iC7 (by decide +kernel) (zin 531 (by decide +kernel) rfl) rfl) ?_
  refine zap (zput_mono _ _ _) (zput_ok (index := 31) (C := RC3) (ref := "VectorLanguage$Environment") (T := FC3) (NN := 5) tC3 (by decide +kernel) rfl iC3 tC3_ok nC3 (by decide +kernel) (zin 68 (by decide +kernel) rfl) rfl (Or.inr ⟨rfl, rfl, rfl⟩) rfl) ?_
  refine zap (zretV_mono) (zretV_ok (by decide +kernel) rfl) ?_
  exact zn
/-- VectorLanguage$Places.<init>()V -/
def tb4 (tys : List (ClassId × FieldType)) : List (Nat × (zP → zP)) := [(0, zi (gAl 0) 1), (1, zobj), (4, zi (gAl 0) 1), (5, zi (gC (.int (16))) 2), (7, znewi tys), (9, zput (.array (.int)) 4 0), (12, zretV)]
set_option maxRecDepth 100000 in
theorem ok4 (l : Launch) (D : va_G) (dA : Nat → ClassId) (b0 : Nat) : ∀ q ∈ tb4 (ztys dA), zOK l D dA b0 4 q.1 q.2 := by
  refine zap (zi_mono _ _) (zi_ok (zg_aload_n (j := 0) (by decide +kernel) rfl)) ?_
  refine zap (zobj_mono) (zobj_ok (idx := 3) (by decide +kernel) (zin 90 (by decide +kernel) rfl) (zin 32 (by decide +kernel) rfl) (zin 33 (by decide +kernel) rfl)) ?_
  refine zap (zi_mono _ _) (zi_ok (zg_aload_n (j := 0) (by decide +kernel) rfl)) ?_
  refine zap (zi_mono _ _) (zi_ok (zg_bipush (n := 16) (by decide +kernel) (by decide +kernel))) ?_
  refine zap (znewi_mono _) (znewi_ok (by decide +kernel) (zin 109 (by decide +kernel) rfl)) ?_
  refine zap (zput_mono _ _ _) (zput_ok (index := 9) (C := RC4) (ref := "VectorLanguage$Places") (T := FC4) (NN := 5) tC4 (by decide +kernel) rfl iC4 tC4_ok nC4 (by decide +kernel) (zin 91 (by decide +kernel) rfl) rfl (Or.inr ⟨rfl, rfl, rfl⟩) rfl) ?_
  refine zap (zretV_mono) (zretV_ok (by decide +kernel) rfl) ?_
  exact zn
/-- VectorLanguage$Vector.<init>([I)V -/
def tb5 (_ : List (ClassId × FieldType)) : List (Nat × (zP → zP)) := [(0, zi (gAl 0) 1), (1, zcI 1 6 0), (4, zi (gAl 0) 1), (5, zi (gAl 1) 1), (6, zput (.array (.int)) 5 0), (9, zretV)]
set_option maxRecDepth 100000 in
theorem ok5 (l : Launch) (D : va_G) (dA : Nat → ClassId) (b0 : Nat) : ∀ q ∈ tb5 (ztys dA), zOK l D dA b0 5 q.1 q.2 := by
  refine zap (zi_mono _ _) (zi_ok (zg_aload_n (j := 0) (by decide +kernel) rfl)) ?_
  refine zap (zcI_mono _ _ _) (zcIN_ok znst_st (μ' := 6) (na := 0) (index := 1) (host := "VectorLanguage") (by decide +kernel) (by decide +kernel) rfl rfl (zgI (zin 117 (by decide +kernel) rfl)) (List.mem_of_getElem? (i := 2) rfl) (zin 7 (by decide +kernel) rfl) (zin 116 (by decide +kernel) rfl) (by decide +kernel) (by decide +kernel)) ?_
  refine zap (zi_mono _ _) (zi_ok (zg_aload_n (j := 0) (by decide +kernel) rfl)) ?_
  refine zap (zi_mono _ _) (zi_ok (zg_aload_n (j := 1) (by decide +kernel) rfl)) ?_
  refine zap (zput_mono _ _ _) (zput_ok (index := 7) (C := RC5) (ref := "VectorLanguage$Vector") (T := FC5) (NN := 1) tC5 (by decide +kernel) rfl iC5 tC5_ok nC5 (by decide +kernel) (zin 122 (by decide +kernel) rfl) rfl (Or.inr ⟨rfl, rfl, rfl⟩) rfl) ?_
  refine zap (zretV_mono) (zretV_ok (by decide +kernel) rfl) ?_
  exact zn
/-- VectorLanguage$Value.<init>()V -/
def tb6 (_ : List (ClassId × FieldType)) : List (Nat × (zP → zP)) := [(0, zi (gAl 0) 1), (1, zcI 1 7 0), (4, zretV)]
set_option maxRecDepth 100000 in
theorem ok6 (l : Launch) (D : va_G) (dA : Nat → ClassId) (b0 : Nat) : ∀ q ∈ tb6 (ztys dA), zOK l D dA b0 6 q.1 q.2 := by
  refine zap (zi_mono _ _) (zi_ok (zg_aload_n (j := 0) (by decide +kernel) rfl)) ?_
  refine zap (zcI_mono _ _ _) (zcIN_ok znst_st (μ' := 7) (na := 0) (index := 1) (host := "VectorLanguage") (by decide +kernel) (by decide +kernel) rfl rfl (zgI (zin 120 (by decide +kernel) rfl)) (List.mem_of_getElem? (i := 3) rfl) (zin 6 (by decide +kernel) rfl) (zin 119 (by decide +kernel) rfl) (by decide +kernel) (by decide +kernel)) ?_
  refine zap (zretV_mono) (zretV_ok (by decide +kernel) rfl) ?_
  exact zn
/-- VectorLanguage$Held.<init>()V -/
def tb7 (_ : List (ClassId × FieldType)) : List (Nat × (zP → zP)) := [(0, zi (gAl 0) 1), (1, zobj), (4, zretV)]
set_option maxRecDepth 100000 in
theorem ok7 (l : Launch) (D : va_G) (dA : Nat → ClassId) (b0 : Nat) : ∀ q ∈ tb7 (ztys dA), zOK l D dA b0 7 q.1 q.2 := by
  refine zap (zi_mono _ _) (zi_ok (zg_aload_n (j := 0) (by decide +kernel) rfl)) ?_
  refine zap (zobj_mono) (zobj_ok (idx := 1) (by decide +kernel) (zin 121 (by decide +kernel) rfl) (zin 32 (by decide +kernel) rfl) (zin 33 (by decide +kernel) rfl)) ?_
  refine zap (zretV_mono) (zretV_ok (by decide +kernel) rfl) ?_
  exact zn
/-- VectorLanguage$Vector.<init>(I)V -/
def tb8 (tys : List (ClassId × FieldType)) : List (Nat × (zP → zP)) := [(0, zi (gAl 0) 1), (1, zcI 1 6 0), (4, zi (gAl 0) 1), (5, zi (gC (.int (1))) 1), (6, znewi tys), (8, zput (.array (.int)) 5 0), (11, zi (gAl 0) 1), (12, zget 5 0), (15, zi (gC (.int (0))) 1), (16, zi (gIl 1) 1), (17, ziast tys), (18, zretV)]
set_option maxRecDepth 100000 in
theorem ok8 (l : Launch) (D : va_G) (dA : Nat → ClassId) (b0 : Nat) : ∀ q ∈ tb8 (ztys dA), zOK l D dA b0 8 q.1 q.2 := by
  refine zap (zi_mono _ _) (zi_ok (zg_aload_n (j := 0) (by decide +kernel) rfl)) ?_
  refine zap (zcI_mono _ _ _) (zcIN_ok znst_st (μ' := 6) (na := 0) (index := 1) (host := "VectorLanguage") (by decide +kernel) (by decide +kernel) rfl rfl (zgI (zin 117 (by decide +kernel) rfl)) (List.mem_of_getElem? (i := 2) rfl) (zin 7 (by decide +kernel) rfl) (zin 116 (by decide +kernel) rfl) (by decide +kernel) (by decide +kernel)) ?_
  refine zap (zi_mono _ _) (zi_ok (zg_aload_n (j := 0) (by decide +kernel) rfl)) ?_
  refine zap (zi_mono _ _) (zi_ok (zg_iconst (n := 1) (by decide +kernel) (by decide +kernel))) ?_
  refine zap (znewi_mono _) (znewi_ok (by decide +kernel) (zin 109 (by decide +kernel) rfl)) ?_
  refine zap (zput_mono _ _ _) (zput_ok (index := 7) (C := RC5) (ref := "VectorLanguage$Vector") (T := FC5) (NN := 1) tC5 (by decide +kernel) rfl iC5 tC5_ok nC5 (by decide +kernel) (zin 122 (by decide +kernel) rfl) rfl (Or.inr ⟨rfl, rfl, rfl⟩) rfl) ?_
  refine zap (zi_mono _ _) (zi_ok (zg_aload_n (j := 0) (by decide +kernel) rfl)) ?_
  refine zap (zget_mono _ _) (zget_ok (index := 7) (C := RC5) (ref := "VectorLanguage$Vector") (T := FC5) (NN := 1) (by decide +kernel) rfl iC5 (by decide +kernel) (zin 122 (by decide +kernel) rfl) rfl) ?_
  refine zap (zi_mono _ _) (zi_ok (zg_iconst (n := 0) (by decide +kernel) (by decide +kernel))) ?_
  refine zap (zi_mono _ _) (zi_ok (zg_iload_n (j := 1) (by decide +kernel) rfl)) ?_
  refine zap (ziast_mono _) (ziast_ok (by decide +kernel)) ?_
  refine zap (zretV_mono) (zretV_ok (by decide +kernel) rfl) ?_
  exact zn
/-- VectorLanguage.failure()I -/
def tb9 (_ : List (ClassId × FieldType)) : List (Nat × (zP → zP)) := [(0, zi (gAl 0) 1), (1, zget 0 1), (4, zget 2 5), (7, zretI)]
set_option maxRecDepth 100000 in
theorem ok9 (l : Launch) (D : va_G) (dA : Nat → ClassId) (b0 : Nat) : ∀ q ∈ tb9 (ztys dA), zOK l D dA b0 9 q.1 q.2 := by
  refine zap (zi_mono _ _) (zi_ok (zg_aload_n (j := 0) (by decide +kernel) rfl)) ?_
  refine zap (zget_mono _ _) (zget_ok (index := 21) (C := RC0) (ref := "VectorLanguage") (T := FC0) (NN := 3) (by decide +kernel) rfl iC0 (by decide +kernel) (zin 178 (by decide +kernel) rfl) rfl) ?_
  refine zap (zget_mono _ _) (zget_ok (index := 71) (C := RC2) (ref := "VectorLanguage$Evaluator") (T := FC2) (NN := 13) (by decide +kernel) rfl iC2 (by decide +kernel) (zin 142 (by decide +kernel) rfl) rfl) ?_
  refine zap (zretI_mono) (zretI_ok (by decide +kernel) rfl) ?_
  exact zn
/-- VectorLanguage.reset()I -/
def tb10 (_ : List (ClassId × FieldType)) : List (Nat × (zP → zP)) := [(0, zi (gAl 0) 1), (1, zi (gC .null) 1), (2, zput (.object "VectorLanguage$Value") 0 2), (5, zi (gAl 0) 1), (6, zget 0 1), (9, zcV 2 11 0 2), (12, zretI)]
set_option maxRecDepth 100000 in
theorem ok10 (l : Launch) (D : va_G) (dA : Nat → ClassId) (b0 : Nat) : ∀ q ∈ tb10 (ztys dA), zOK l D dA b0 10 q.1 q.2 := by
  refine zap (zi_mono _ _) (zi_ok (zg_aload_n (j := 0) (by decide +kernel) rfl)) ?_
  refine zap (zi_mono _ _) (zi_ok (zg_null (by decide +kernel))) ?_
  refine zap (zput_mono _ _ _) (zput_ok (index := 25) (C := RC0) (ref := "VectorLanguage") (T := FC0) (NN := 3) tC0 (by decide +kernel) rfl iC0 tC0_ok nC0 (by decide +kernel) (zin 179 (by decide +kernel) rfl) rfl (Or.inl rfl) rfl) ?_
  refine zap (zi_mono _ _) (zi_ok (zg_aload_n (j := 0) (by decide +kernel) rfl)) ?_
  refine zap (zget_mono _ _) (zget_ok (index := 21) (C := RC0) (ref := "VectorLanguage") (T := FC0) (NN := 3) (by decide +kernel) rfl iC0 (by decide +kernel) (zin 178 (by decide +kernel) rfl) rfl) ?_
  refine zap (zcV_mono _ _ _ _) (zcV_ok znst_st (μ' := 11) (na := 0) (ci := 2) (index := 115) (q := (RC2, FC2, 13)) (by decide +kernel) (by decide +kernel) rfl (zgV (zin 195 (by decide +kernel) rfl) (zin 196 (by decide +kernel) rfl) (zin 197 (by decide +kernel) rfl) (zin 3 (by decide +kernel) rfl) (zin 198 (by decide +kernel) rfl)) (by decide +kernel) (by decide +kernel)) ?_
  refine zap (zretI_mono) (zretI_ok (by decide +kernel) rfl) ?_
  exact zn
/-- VectorLanguage$Evaluator.forget()I -/
def tb11 (_ : List (ClassId × FieldType)) : List (Nat × (zP → zP)) := [(0, zi (gAl 0) 1), (1, zget 2 2), (4, zi (gIs 1) 1), (5, zi (gAl 0) 1), (6, zi (gC (.int (0))) 1), (7, zput (.int) 2 2), (10, zi (gAl 0) 1), (11, zget 2 1), (14, zcV 2 12 0 3), (17, zi (gIl 1) 1), (18, zretI)]
set_option maxRecDepth 100000 in
theorem ok11 (l : Launch) (D : va_G) (dA : Nat → ClassId) (b0 : Nat) : ∀ q ∈ tb11 (ztys dA), zOK l D dA b0 11 q.1 q.2 := by
  refine zap (zi_mono _ _) (zi_ok (zg_aload_n (j := 0) (by decide +kernel) rfl)) ?_
  refine zap (zget_mono _ _) (zget_ok (index := 71) (C := RC2) (ref := "VectorLanguage$Evaluator") (T := FC2) (NN := 13) (by decide +kernel) rfl iC2 (by decide +kernel) (zin 135 (by decide +kernel) rfl) rfl) ?_
  refine zap (zi_mono _ _) (zi_ok (zg_istore_n (j := 1) (by decide +kernel) rfl (by decide +kernel))) ?_
  refine zap (zi_mono _ _) (zi_ok (zg_aload_n (j := 0) (by decide +kernel) rfl)) ?_
  refine zap (zi_mono _ _) (zi_ok (zg_iconst (n := 0) (by decide +kernel) (by decide +kernel))) ?_
  refine zap (zput_mono _ _ _) (zput_ok (index := 71) (C := RC2) (ref := "VectorLanguage$Evaluator") (T := FC2) (NN := 13) tC2 (by decide +kernel) rfl iC2 tC2_ok nC2 (by decide +kernel) (zin 135 (by decide +kernel) rfl) rfl (Or.inl rfl) rfl) ?_
  refine zap (zi_mono _ _) (zi_ok (zg_aload_n (j := 0) (by decide +kernel) rfl)) ?_
  refine zap (zget_mono _ _) (zget_ok (index := 14) (C := RC2) (ref := "VectorLanguage$Evaluator") (T := FC2) (NN := 13) (by decide +kernel) rfl iC2 (by decide +kernel) (zin 133 (by decide +kernel) rfl) rfl) ?_
  refine zap (zcV_mono _ _ _ _) (zcV_ok znst_st (μ' := 12) (na := 0) (ci := 3) (index := 74) (q := (RC3, FC3, 5)) (by decide +kernel) (by decide +kernel) rfl (zgV (zin 199 (by decide +kernel) rfl) (zin 200 (by decide +kernel) rfl) (zin 201 (by decide +kernel) rfl) (zin 4 (by decide +kernel) rfl) (zin 202 (by decide +kernel) rfl)) (by decide +kernel) (by decide +kernel)) ?_
  refine zap (zi_mono _ _) (zi_ok (zg_iload_n (j := 1) (by decide +kernel) rfl)) ?_
  refine zap (zretI_mono) (zretI_ok (by decide +kernel) rfl) ?_
  exact zn
/-- VectorLanguage$Environment.clear()V -/
def tb12 (tys : List (ClassId × FieldType)) : List (Nat × (zP → zP)) := [(0, zi (gC (.int (0))) 1), (1, zi (gIs 1) 1), (2, zi (gIl 1) 1), (3, zi (gC (.int (10))) 2), (5, zb (c2 (fun x y => y ≤ x)) 21), (8, zi (gAl 0) 1), (9, zget 3 0), (12, zi (gIl 1) 1), (13, zi (gC .null) 1), (14, zaast tys "VectorLanguage$Held" [5, 7, 8]), (15, zi (gIinc 1 (1)) 3), (18, zj 2), (21, zretV)]
set_option maxRecDepth 100000 in
theorem ok12 (l : Launch) (D : va_G) (dA : Nat → ClassId) (b0 : Nat) : ∀ q ∈ tb12 (ztys dA), zOK l D dA b0 12 q.1 q.2 := by
  refine zap (zi_mono _ _) (zi_ok (zg_iconst (n := 0) (by decide +kernel) (by decide +kernel))) ?_
  refine zap (zi_mono _ _) (zi_ok (zg_istore_n (j := 1) (by decide +kernel) rfl (by decide +kernel))) ?_
  refine zap (zi_mono _ _) (zi_ok (zg_iload_n (j := 1) (by decide +kernel) rfl)) ?_
  refine zap (zi_mono _ _) (zi_ok (zg_bipush (n := 10) (by decide +kernel) (by decide +kernel))) ?_
  refine zap (zb_mono _ _) (zb_ok (zb_ige (off := 16) (by decide +kernel) (by decide +kernel))) ?_
  refine zap (zi_mono _ _) (zi_ok (zg_aload_n (j := 0) (by decide +kernel) rfl)) ?_
  refine zap (zget_mono _ _) (zget_ok (index := 11) (C := RC3) (ref := "VectorLanguage$Environment") (T := FC3) (NN := 5) (by decide +kernel) rfl iC3 (by decide +kernel) (zin 65 (by decide +kernel) rfl) rfl) ?_
  refine zap (zi_mono _ _) (zi_ok (zg_iload_n (j := 1) (by decide +kernel) rfl)) ?_
  refine zap (zi_mono _ _) (zi_ok (zg_null (by decide +kernel))) ?_
  refine zap (zaast_mono _ _ _) (zaast_ok (by decide +kernel) (za ⟨_, rfl, Or.inr (List.mem_of_getElem? (i := 15) rfl)⟩ (za ⟨_, rfl, Or.inr (List.mem_of_getElem? (i := 14) rfl)⟩ (za ⟨_, rfl, Or.inr (List.mem_of_getElem? (i := 13) rfl)⟩ zn)))) ?_
  refine zap (zi_mono _ _) (zi_ok (zg_iinc (n := 1) (by decide +kernel) (by decide +kernel) (by decide +kernel))) ?_
  refine zap (zj_mono _) (zj_ok (off := -16) (by decide +kernel) (by decide +kernel)) ?_
  refine zap (zretV_mono) (zretV_ok (by decide +kernel) rfl) ?_
  exact zn
/-- VectorLanguage.expression(IIII)I -/
def tb13 (_ : List (ClassId × FieldType)) : List (Nat × (zP → zP)) := [(0, zi (gAl 0) 1), (1, zget 0 0), (4, zi (gIl 1) 1), (5, zi (gIl 2) 1), (6, zi (gIl 3) 1), (7, zi (gIl 4) 2), (9, zcV 5 14 4 1), (12, zb (c1 (fun x => ¬ x = 0)) 25), (18, zi (gDup) 1), (25, zi (gAl 0) 1), (26, zget 0 0), (29, zget 1 1), (32, zi (gC (.int (120))) 2), (34, zb (c2 (fun x y => x < y)) 47), (40, zi (gDup) 1), (47, zi (gAl 0) 1), (48, zget 0 0), (51, znew 6 5 dC6), (54, zi (gDup) 1), (55, zi (gIl 1) 1), (56, zi (gIl 2) 1), (57, zi (gIl 3) 1), (58, zi (gIl 4) 2), (60, zcI 5 20 4), (63, zcV 2 21 1 1), (66, zretI)]
set_option maxRecDepth 100000 in
theorem ok13 (l : Launch) (D : va_G) (dA : Nat → ClassId) (b0 : Nat) : ∀ q ∈ tb13 (ztys dA), zOK l D dA b0 13 q.1 q.2 := by
  refine zap (zi_mono _ _) (zi_ok (zg_aload_n (j := 0) (by decide +kernel) rfl)) ?_
  refine zap (zget_mono _ _) (zget_ok (index := 10) (C := RC0) (ref := "VectorLanguage") (T := FC0) (NN := 3) (by decide +kernel) rfl iC0 (by decide +kernel) (zin 177 (by decide +kernel) rfl) rfl) ?_
  refine zap (zi_mono _ _) (zi_ok (zg_iload_n (j := 1) (by decide +kernel) rfl)) ?_
  refine zap (zi_mono _ _) (zi_ok (zg_iload_n (j := 2) (by decide +kernel) rfl)) ?_
  refine zap (zi_mono _ _) (zi_ok (zg_iload_n (j := 3) (by decide +kernel) rfl)) ?_
  refine zap (zi_mono _ _) (zi_ok (zg_iload (by decide +kernel))) ?_
  refine zap (zcV_mono _ _ _ _) (zcV_ok znst_st (μ' := 14) (na := 4) (ci := 1) (index := 29) (q := (RC1, FC1, 2)) (by decide +kernel) (by decide +kernel) rfl (zgV (zin 212 (by decide +kernel) rfl) (zin 213 (by decide +kernel) rfl) (zin 214 (by decide +kernel) rfl) (zin 2 (by decide +kernel) rfl) (zin 215 (by decide +kernel) rfl)) (by decide +kernel) (by decide +kernel)) ?_
  refine zap (zb_mono _ _) (zb_ok (zb_ne (off := 13) (by decide +kernel) (by decide +kernel))) ?_
  refine zap (zi_mono _ _) (zi_ok (zg_dup (by decide +kernel))) ?_
  refine zap (zi_mono _ _) (zi_ok (zg_aload_n (j := 0) (by decide +kernel) rfl)) ?_
  refine zap (zget_mono _ _) (zget_ok (index := 10) (C := RC0) (ref := "VectorLanguage") (T := FC0) (NN := 3) (by decide +kernel) rfl iC0 (by decide +kernel) (zin 177 (by decide +kernel) rfl) rfl) ?_
  refine zap (zget_mono _ _) (zget_ok (index := 40) (C := RC1) (ref := "VectorLanguage$Program") (T := FC1) (NN := 2) (by decide +kernel) rfl iC1 (by decide +kernel) (zin 45 (by decide +kernel) rfl) rfl) ?_
  refine zap (zi_mono _ _) (zi_ok (zg_bipush (n := 120) (by decide +kernel) (by decide +kernel))) ?_
  refine zap (zb_mono _ _) (zb_ok (zb_ilt (off := 13) (by decide +kernel) (by decide +kernel))) ?_
  refine zap (zi_mono _ _) (zi_ok (zg_dup (by decide +kernel))) ?_
  refine zap (zi_mono _ _) (zi_ok (zg_aload_n (j := 0) (by decide +kernel) rfl)) ?_
  refine zap (zget_mono _ _) (zget_ok (index := 10) (C := RC0) (ref := "VectorLanguage") (T := FC0) (NN := 3) (by decide +kernel) rfl iC0 (by decide +kernel) (zin 177 (by decide +kernel) rfl) rfl) ?_
  refine zap (znew_mono _ _ _) (znew_ok (index := 49) (C := RC6) (T := FC6) tC6 (by decide +kernel) rfl iC6 tC6_ok (zin 323 (by decide +kernel) rfl) (zin 324 (by decide +kernel) rfl) (zin 15 (by decide +kernel) rfl) dC6_ok) ?_
  refine zap (zi_mono _ _) (zi_ok (zg_dup (by decide +kernel))) ?_
  refine zap (zi_mono _ _) (zi_ok (zg_iload_n (j := 1) (by decide +kernel) rfl)) ?_
  refine zap (zi_mono _ _) (zi_ok (zg_iload_n (j := 2) (by decide +kernel) rfl)) ?_
  refine zap (zi_mono _ _) (zi_ok (zg_iload_n (j := 3) (by decide +kernel) rfl)) ?_
  refine zap (zi_mono _ _) (zi_ok (zg_iload (by decide +kernel))) ?_
  refine zap (zcI_mono _ _ _) (zcI_ok znst_st (μ' := 20) (na := 4) (index := 51) (by decide +kernel) (by decide +kernel) rfl rfl (zgI (zin 327 (by decide +kernel) rfl)) (zin 15 (by decide +kernel) rfl) (zin 325 (by decide +kernel) rfl) (zin 326 (by decide +kernel) rfl) (by decide +kernel) (by decide +kernel)) ?_
  refine zap (zcV_mono _ _ _ _) (zcV_ok znst_st (μ' := 21) (na := 1) (ci := 1) (index := 54) (q := (RC1, FC1, 2)) (by decide +kernel) (by decide +kernel) rfl (zgV (zin 352 (by decide +kernel) rfl) (zin 353 (by decide +kernel) rfl) (zin 354 (by decide +kernel) rfl) (zin 2 (by decide +kernel) rfl) (zin 355 (by decide +kernel) rfl)) (by decide +kernel) (by decide +kernel)) ?_
  refine zap (zretI_mono) (zretI_ok (by decide +kernel) rfl) ?_
  exact zn
/-- VectorLanguage$Program.accepts(IIII)Z -/
def tb14 (_ : List (ClassId × FieldType)) : List (Nat × (zP → zP)) := [(0, zi (gIl 1) 1), (1, zsw [(0, 120), (1, 138), (2, 138), (3, 140), (4, 145), (5, 145), (6, 166), (7, 199), (8, 232), (9, 265), (10, 271), (11, 271), (12, 271), (13, 293), (14, 265), (15, 265), (16, 323), (17, 271), (18, 271), (19, 354), (20, 377), (21, 140), (22, 265), (23, 265), (24, 271), (25, 271)] 401), (120, zi (gIl 2) 1), (121, zi (gC (.int (-1000000000))) 2), (123, zb (c2 (fun x y => x < y)) 136), (126, zi (gIl 2) 1), (127, zi (gC (.int (1000000000))) 2), (129, zb (c2 (fun x y => y < x)) 136), (132, zi (gC (.int (1))) 1), (133, zj 137), (136, zi (gC (.int (0))) 1), (137, zretZ), (138, zi (gC (.int (1))) 1), (139, zretZ), (140, zi (gIl 2) 1), (141, zcS 1 15 1), (144, zretZ), (145, zi (gIl 2) 1), (146, zcS 1 15 1), (149, zb (c1 (fun x => x = 0)) 164), (152, zi (gAl 0) 1), (153, zi (gIl 3) 1), (154, zcV 2 16 1 1), (157, zb (c1 (fun x => x = 0)) 164), (160, zi (gC (.int (1))) 1), (161, zj 165), (164, zi (gC (.int (0))) 1), (165, zretZ), (166, zi (gAl 0) 1), (167, zi (gIl 2) 1), (168, zcV 2 16 1 1), (171, zb (c1 (fun x => x = 0)) 197), (174, zi (gAl 0) 1), (175, zi (gIl 3) 1), (176, zcV 2 16 1 1), (179, zb (c1 (fun x => x = 0)) 197), (182, zi (gIl 4) 2), (184, zb (c1 (fun x => x < 0)) 197), (187, zi (gIl 4) 2), (189, zi (gC (.int (4))) 1), (190, zb (c2 (fun x y => y < x)) 197), (193, zi (gC (.int (1))) 1), (194, zj 198), (197, zi (gC (.int (0))) 1), (198, zretZ), (199, zi (gAl 0) 1), (200, zi (gIl 2) 1), (201, zcV 2 16 1 1), (204, zb (c1 (fun x => x = 0)) 230), (207, zi (gAl 0) 1), (208, zi (gIl 3) 1), (209, zcV 2 16 1 1), (212, zb (c1 (fun x => x = 0)) 230), (215, zi (gIl 4) 2), (217, zb (c1 (fun x => x < 0)) 230), (220, zi (gIl 4) 2), (222, zi (gC (.int (2))) 1), (223, zb (c2 (fun x y => y < x)) 230), (226, zi (gC (.int (1))) 1), (227, zj 231), (230, zi (gC (.int (0))) 1), (231, zretZ), (232, zi (gAl 0) 1), (233, zi (gIl 2) 1), (234, zcV 2 16 1 1), (237, zb (c1 (fun x => x = 0)) 263), (240, zi (gAl 0) 1), (241, zi (gIl 3) 1), (242, zcV 2 16 1 1), (245, zb (c1 (fun x => x = 0)) 263), (248, zi (gIl 4) 2), (250, zb (c1 (fun x => x < 0)) 263), (253, zi (gIl 4) 2), (255, zi (gC (.int (1))) 1), (256, zb (c2 (fun x y => y < x)) 263), (259, zi (gC (.int (1))) 1), (260, zj 264), (263, zi (gC (.int (0))) 1), (264, zretZ), (265, zi (gAl 0) 1), (266, zi (gIl 2) 1), (267, zcV 2 16 1 1), (270, zretZ), (271, zi (gAl 0) 1), (272, zi (gIl 2) 1), (273, zcV 2 16 1 1), (276, zb (c1 (fun x => x = 0)) 291), (279, zi (gAl 0) 1), (280, zi (gIl 3) 1), (281, zcV 2 16 1 1), (284, zb (c1 (fun x => x = 0)) 291), (287, zi (gC (.int (1))) 1), (288, zj 292), (291, zi (gC (.int (0))) 1), (292, zretZ), (293, zi (gIl 2) 1), (294, zcS 1 15 1), (297, zb (c1 (fun x => x = 0)) 321), (300, zi (gAl 0) 1), (301, zi (gIl 3) 1), (302, zcV 2 16 1 1), (305, zb (c1 (fun x => x = 0)) 321), (308, zi (gAl 0) 1), (309, zi (gIl 4) 2), (311, zcV 2 16 1 1), (314, zb (c1 (fun x => x = 0)) 321), (317, zi (gC (.int (1))) 1), (318, zj 322), (321, zi (gC (.int (0))) 1), (322, zretZ), (323, zi (gAl 0) 1), (324, zi (gIl 2) 1), (325, zcV 2 16 1 1), (328, zb (c1 (fun x => x = 0)) 352), (331, zi (gAl 0) 1), (332, zi (gIl 3) 1), (333, zcV 2 16 1 1), (336, zb (c1 (fun x => x = 0)) 352), (339, zi (gAl 0) 1), (340, zi (gIl 4) 2), (342, zcV 2 17 1 1), (345, zb (c1 (fun x => x = 0)) 352), (348, zi (gC (.int (1))) 1), (349, zj 353), (352, zi (gC (.int (0))) 1), (353, zretZ), (354, zi (gAl 0) 1), (355, zi (gIl 2) 1), (356, zcV 2 16 1 1), (359, zb (c1 (fun x => x = 0)) 375), (362, zi (gIl 3) 1), (363, zi (gIl 4) 2), (365, zcS 2 18 2), (368, zb (c1 (fun x => x = 0)) 375), (371, zi (gC (.int (1))) 1), (372, zj 376), (375, zi (gC (.int (0))) 1), (376, zretZ), (377, zi (gAl 0) 1), (378, zi (gIl 2) 1), (379, zcV 2 16 1 1), (382, zb (c1 (fun x => x = 0)) 399), (385, zi (gAl 0) 1), (386, zi (gIl 3) 1), (387, zi (gIl 4) 2), (389, zcV 3 19 2 1), (392, zb (c1 (fun x => x = 0)) 399), (395, zi (gC (.int (1))) 1), (396, zj 400), (399, zi (gC (.int (0))) 1), (400, zretZ), (401, zi (gC (.int (0))) 1), (402, zretZ)]
set_option maxRecDepth 100000 in
theorem ok14 (l : Launch) (D : va_G) (dA : Nat → ClassId) (b0 : Nat) : ∀ q ∈ tb14 (ztys dA), zOK l D dA b0 14 q.1 q.2 := by
  refine zap (zi_mono _ _) (zi_ok (zg_iload_n (j := 1) (by decide +kernel) rfl)) ?_
  refine zap (zsw_mono _ _) (zsw_tab (off := 400) (lo := 0) (hi := 25) (offs := #[119, 137, 137, 139, 144, 144, 165, 198, 231, 264, 270, 270, 270, 292, 264, 264, 322, 270, 270, 353, 376, 139, 264, 264, 270, 270]) (len := 119) (by decide +kernel) (by decide +kernel) (by decide +kernel) (by decide +kernel)) ?_
  refine zap (zi_mono _ _) (zi_ok (zg_iload_n (j := 2) (by decide +kernel) rfl)) ?_
  refine zap (zi_mono _ _) (zi_ok (zg_ldc (index := 21) (by decide +kernel) (zin 216 (by decide +kernel) rfl))) ?_
  refine zap (zb_mono _ _) (zb_ok (zb_ilt (off := 13) (by decide +kernel) (by decide +kernel))) ?_
  refine zap (zi_mono _ _) (zi_ok (zg_iload_n (j := 2) (by decide +kernel) rfl)) ?_
  refine zap (zi_mono _ _) (zi_ok (zg_ldc (index := 22) (by decide +kernel) (zin 217 (by decide +kernel) rfl))) ?_
  refine zap (zb_mono _ _) (zb_ok (zb_igt (off := 7) (by decide +kernel) (by decide +kernel))) ?_
  refine zap (zi_mono _ _) (zi_ok (zg_iconst (n := 1) (by decide +kernel) (by decide +kernel))) ?_
  refine zap (zj_mono _) (zj_ok (off := 4) (by decide +kernel) (by decide +kernel)) ?_
  refine zap (zi_mono _ _) (zi_ok (zg_iconst (n := 0) (by decide +kernel) (by decide +kernel))) ?_
  refine zap (zretZ_mono) (zretZ_ok (by decide +kernel) rfl) ?_
  refine zap (zi_mono _ _) (zi_ok (zg_iconst (n := 1) (by decide +kernel) (by decide +kernel))) ?_
  refine zap (zretZ_mono) (zretZ_ok (by decide +kernel) rfl) ?_
  refine zap (zi_mono _ _) (zi_ok (zg_iload_n (j := 2) (by decide +kernel) rfl)) ?_
  refine zap (zcS_mono _ _ _) (zcSN_ok znst_st (μ' := 15) (na := 1) (index := 23) (host := "VectorLanguage") (by decide +kernel) (by decide +kernel) (zgI (zin 220 (by decide +kernel) rfl)) (List.mem_of_getElem? (i := 4) rfl) (zin 1 (by decide +kernel) rfl) (zin 219 (by decide +kernel) rfl) (by decide +kernel) (by decide +kernel)) ?_
  refine zap (zretZ_mono) (zretZ_ok (by decide +kernel) rfl) ?_
  refine zap (zi_mono _ _) (zi_ok (zg_iload_n (j := 2) (by decide +kernel) rfl)) ?_
  refine zap (zcS_mono _ _ _) (zcSN_ok znst_st (μ' := 15) (na := 1) (index := 23) (host := "VectorLanguage") (by decide +kernel) (by decide +kernel) (zgI (zin 220 (by decide +kernel) rfl)) (List.mem_of_getElem? (i := 4) rfl) (zin 1 (by decide +kernel) rfl) (zin 219 (by decide +kernel) rfl) (by decide +kernel) (by decide +kernel)) ?_
  refine zap (zb_mono _ _) (zb_ok (zb_eq (off := 15) (by decide +kernel) (by decide +kernel))) ?_
  refine zap (zi_mono _ _) (zi_ok (zg_aload_n (j := 0) (by decide +kernel) rfl)) ?_
  refine zap (zi_mono _ _) (zi_ok (zg_iload_n (j := 3) (by decide +kernel) rfl)) ?_
  refine zap (zcV_mono _ _ _ _) (zcV_ok znst_st (μ' := 16) (na := 1) (ci := 1) (index := 27) (q := (RC1, FC1, 2)) (by decide +kernel) (by decide +kernel) rfl (zgV (zin 221 (by decide +kernel) rfl) (zin 222 (by decide +kernel) rfl) (zin 223 (by decide +kernel) rfl) (zin 2 (by decide +kernel) rfl) (zin 224 (by decide +kernel) rfl)) (by decide +kernel) (by decide +kernel)) ?_
  refine zap (zb_mono _ _) (zb_ok (zb_eq (off := 7) (by decide +kernel) (by decide +kernel))) ?_
  refine zap (zi_mono _ _) (zi_ok (zg_iconst (n := 1) (by decide +kernel) (by decide +kernel))) ?_
  refine zap (zj_mono _) (zj_ok (off := 4) (by decide +kernel) (by decide +kernel)) ?_
  refine zap (zi_mono _ _) (zi_ok (zg_iconst (n := 0) (by decide +kernel) (by decide +kernel))) ?_
  refine zap (zretZ_mono) (zretZ_ok (by decide +kernel) rfl) ?_
  refine zap (zi_mono _ _) (zi_ok (zg_aload_n (j := 0) (by decide +kernel) rfl)) ?_
  refine zap (zi_mono _ _) (zi_ok (zg_iload_n (j := 2) (by decide +kernel) rfl)) ?_
  refine zap (zcV_mono _ _ _ _) (zcV_ok znst_st (μ' := 16) (na := 1) (ci := 1) (index := 27) (q := (RC1, FC1, 2)) (by decide +kernel) (by decide +kernel) rfl (zgV (zin 221 (by decide +kernel) rfl) (zin 222 (by decide +kernel) rfl) (zin 223 (by decide +kernel) rfl) (zin 2 (by decide +kernel) rfl) (zin 224 (by decide +kernel) rfl)) (by decide +kernel) (by decide +kernel)) ?_
  refine zap (zb_mono _ _) (zb_ok (zb_eq (off := 26) (by decide +kernel) (by decide +kernel))) ?_
  refine zap (zi_mono _ _) (zi_ok (zg_aload_n (j := 0) (by decide +kernel) rfl)) ?_
  refine zap (zi_mono _ _) (zi_ok (zg_iload_n (j := 3) (by decide +kernel) rfl)) ?_
  refine zap (zcV_mono _ _ _ _) (zcV_ok znst_st (μ' := 16) (na := 1) (ci := 1) (index := 27) (q := (RC1, FC1, 2)) (by decide +kernel) (by decide +kernel) rfl (zgV (zin 221 (by decide +kernel) rfl) (zin 222 (by decide +kernel) rfl) (zin 223 (by decide +kernel) rfl) (zin 2 (by decide +kernel) rfl) (zin 224 (by decide +kernel) rfl)) (by decide +kernel) (by decide +kernel)) ?_
  refine zap (zb_mono _ _) (zb_ok (zb_eq (off := 18) (by decide +kernel) (by decide +kernel))) ?_
  refine zap (zi_mono _ _) (zi_ok (zg_iload (by decide +kernel))) ?_
  refine zap (zb_mono _ _) (zb_ok (zb_lt (off := 13) (by decide +kernel) (by decide +kernel))) ?_
  refine zap (zi_mono _ _) (zi_ok (zg_iload (by decide +kernel))) ?_
  refine zap (zi_mono _ _) (zi_ok (zg_iconst (n := 4) (by decide +kernel) (by decide +kernel))) ?_
  refine zap (zb_mono _ _) (zb_ok (zb_igt (off := 7) (by decide +kernel) (by decide +kernel))) ?_
  refine zap (zi_mono _ _) (zi_ok (zg_iconst (n := 1) (by decide +kernel) (by decide +kernel))) ?_
  refine zap (zj_mono _) (zj_ok (off := 4) (by decide +kernel) (by decide +kernel)) ?_
  refine zap (zi_mono _ _) (zi_ok (zg_iconst (n := 0) (by decide +kernel) (by decide +kernel))) ?_
  refine zap (zretZ_mono) (zretZ_ok (by decide +kernel) rfl) ?_
  refine zap (zi_mono _ _) (zi_ok (zg_aload_n (j := 0) (by decide +kernel) rfl)) ?_
  refine zap (zi_mono _ _) (zi_ok (zg_iload_n (j := 2) (by decide +kernel) rfl)) ?_
  refine zap (zcV_mono _ _ _ _) (zcV_ok znst_st (μ' := 16) (na := 1) (ci := 1) (index := 27) (q := (RC1, FC1, 2)) (by decide +kernel) (by decide +kernel) rfl (zgV (zin 221 (by decide +kernel) rfl) (zin 222 (by decide +kernel) rfl) (zin 223 (by decide +kernel) rfl) (zin 2 (by decide +kernel) rfl) (zin 224 (by decide +kernel) rfl)) (by decide +kernel) (by decide +kernel)) ?_
  refine zap (zb_mono _ _) (zb_ok (zb_eq (off := 26) (by decide +kernel) (by decide +kernel))) ?_
  refine zap (zi_mono _ _) (zi_ok (zg_aload_n (j := 0) (by decide +kernel) rfl)) ?_
  refine zap (zi_mono _ _) (zi_ok (zg_iload_n (j := 3) (by decide +kernel) rfl)) ?_
  refine zap (zcV_mono _ _ _ _) (zcV_ok znst_st (μ' := 16) (na := 1) (ci := 1) (index := 27) (q := (RC1, FC1, 2)) (by decide +kernel) (by decide +kernel) rfl (zgV (zin 221 (by decide +kernel) rfl) (zin 222 (by decide +kernel) rfl) (zin 223 (by decide +kernel) rfl) (zin 2 (by decide +kernel) rfl) (zin 224 (by decide +kernel) rfl)) (by decide +kernel) (by decide +kernel)) ?_
  refine zap (zb_mono _ _) (zb_ok (zb_eq (off := 18) (by decide +kernel) (by decide +kernel))) ?_
  refine zap (zi_mono _ _) (zi_ok (zg_iload (by decide +kernel))) ?_
  refine zap (zb_mono _ _) (zb_ok (zb_lt (off := 13) (by decide +kernel) (by decide +kernel))) ?_
  refine zap (zi_mono _ _) (zi_ok (zg_iload (by decide +kernel))) ?_
  refine zap (zi_mono _ _) (zi_ok (zg_iconst (n := 2) (by decide +kernel) (by decide +kernel))) ?_
  refine zap (zb_mono _ _) (zb_ok (zb_igt (off := 7) (by decide +kernel) (by decide +kernel))) ?_
  refine zap (zi_mono _ _) (zi_ok (zg_iconst (n := 1) (by decide +kernel) (by decide +kernel))) ?_
  refine zap (zj_mono _) (zj_ok (off := 4) (by decide +kernel) (by decide +kernel)) ?_
  refine zap (zi_mono _ _) (zi_ok (zg_iconst (n := 0) (by decide +kernel) (by decide +kernel))) ?_
  refine zap (zretZ_mono) (zretZ_ok (by decide +kernel) rfl) ?_
  refine zap (zi_mono _ _) (zi_ok (zg_aload_n (j := 0) (by decide +kernel) rfl)) ?_
  refine zap (zi_mono _ _) (zi_ok (zg_iload_n (j := 2) (by decide +kernel) rfl)) ?_
  refine zap (zcV_mono _ _ _ _) (zcV_ok znst_st (μ' := 16) (na := 1) (ci := 1) (index := 27) (q := (RC1, FC1, 2)) (by decide +kernel) (by decide +kernel) rfl (zgV (zin 221 (by decide +kernel) rfl) (zin 222 (by decide +kernel) rfl) (zin 223 (by decide +kernel) rfl) (zin 2 (by decide +kernel) rfl) (zin 224 (by decide +kernel) rfl)) (by decide +kernel) (by decide +kernel)) ?_
  refine zap (zb_mono _ _) (zb_ok (zb_eq (off := 26) (by decide +kernel) (by decide +kernel))) ?_
  refine zap (zi_mono _ _) (zi_ok (zg_aload_n (j := 0) (by decide +kernel) rfl)) ?_
  refine zap (zi_mono _ _) (zi_ok (zg_iload_n (j := 3) (by decide +kernel) rfl)) ?_
  refine zap (zcV_mono _ _ _ _) (zcV_ok znst_st (μ' := 16) (na := 1) (ci := 1) (index := 27) (q := (RC1, FC1, 2)) (by decide +kernel) (by decide +kernel) rfl (zgV (zin 221 (by decide +kernel) rfl) (zin 222 (by decide +kernel) rfl) (zin 223 (by decide +kernel) rfl) (zin 2 (by decide +kernel) rfl) (zin 224 (by decide +kernel) rfl)) (by decide +kernel) (by decide +kernel)) ?_
  refine zap (zb_mono _ _) (zb_ok (zb_eq (off := 18) (by decide +kernel) (by decide +kernel))) ?_
  refine zap (zi_mono _ _) (zi_ok (zg_iload (by decide +kernel))) ?_
  refine zap (zb_mono _ _) (zb_ok (zb_lt (off := 13) (by decide +kernel) (by decide +kernel))) ?_
  refine zap (zi_mono _ _) (zi_ok (zg_iload (by decide +kernel))) ?_
  refine zap (zi_mono _ _) (zi_ok (zg_iconst (n := 1) (by decide +kernel) (by decide +kernel))) ?_
  refine zap (zb_mono _ _) (zb_ok (zb_igt (off := 7) (by decide +kernel) (by decide +kernel))) ?_
  refine zap (zi_mono _ _) (zi_ok (zg_iconst (n := 1) (by decide +kernel) (by decide +kernel))) ?_
  refine zap (zj_mono _) (zj_ok (off := 4) (by decide +kernel) (by decide +kernel)) ?_
  refine zap (zi_mono _ _) (zi_ok (zg_iconst (n := 0) (by decide +kernel) (by decide +kernel))) ?_
  refine zap (zretZ_mono) (zretZ_ok (by decide +kernel) rfl) ?_
  refine zap (zi_mono _ _) (zi_ok (zg_aload_n (j := 0) (by decide +kernel) rfl)) ?_
  refine zap (zi_mono _ _) (zi_ok (zg_iload_n (j := 2) (by decide +kernel) rfl)) ?_
  refine zap (zcV_mono _ _ _ _) (zcV_ok znst_st (μ' := 16) (na := 1) (ci := 1) (index := 27) (q := (RC1, FC1, 2)) (by decide +kernel) (by decide +kernel) rfl (zgV (zin 221 (by decide +kernel) rfl) (zin 222 (by decide +kernel) rfl) (zin 223 (by decide +kernel) rfl) (zin 2 (by decide +kernel) rfl) (zin 224 (by decide +kernel) rfl)) (by decide +kernel) (by decide +kernel)) ?_
  refine zap (zretZ_mono) (zretZ_ok (by decide +kernel) rfl) ?_
  refine zap (zi_mono _ _) (zi_ok (zg_aload_n (j := 0) (by decide +kernel) rfl)) ?_
  refine zap (zi_mono _ _) (zi_ok (zg_iload_n (j := 2) (by decide +kernel) rfl)) ?_
  refine zap (zcV_mono _ _ _ _) (zcV_ok znst_st (μ' := 16) (na := 1) (ci := 1) (index := 27) (q := (RC1, FC1, 2)) (by decide +kernel) (by decide +kernel) rfl (zgV (zin 221 (by decide +kernel) rfl) (zin 222 (by decide +kernel) rfl) (zin 223 (by decide +kernel) rfl) (zin 2 (by decide +kernel) rfl) (zin 224 (by decide +kernel) rfl)) (by decide +kernel) (by decide +kernel)) ?_
  refine zap (zb_mono _ _) (zb_ok (zb_eq (off := 15) (by decide +kernel) (by decide +kernel))) ?_
  refine zap (zi_mono _ _) (zi_ok (zg_aload_n (j := 0) (by decide +kernel) rfl)) ?_
  refine zap (zi_mono _ _) (zi_ok (zg_iload_n (j := 3) (by decide +kernel) rfl)) ?_
  refine zap (zcV_mono _ _ _ _) (zcV_ok znst_st (μ' := 16) (na := 1) (ci := 1) (index := 27) (q := (RC1, FC1, 2)) (by decide +kernel) (by decide +kernel) rfl (zgV (zin 221 (by decide +kernel) rfl) (zin 222 (by decide +kernel) rfl) (zin 223 (by decide +kernel) rfl) (zin 2 (by decide +kernel) rfl) (zin 224 (by decide +kernel) rfl)) (by decide +kernel) (by decide +kernel)) ?_
  refine zap (zb_mono _ _) (zb_ok (zb_eq (off := 7) (by decide +kernel) (by decide +kernel))) ?_
  refine zap (zi_mono _ _) (zi_ok (zg_iconst (n := 1) (by decide +kernel) (by decide +kernel))) ?_
  refine zap (zj_mono _) (zj_ok (off := 4) (by decide +kernel) (by decide +kernel)) ?_
  refine zap (zi_mono _ _) (zi_ok (zg_iconst (n := 0) (by decide +kernel) (by decide +kernel))) ?_
  refine zap (zretZ_mono) (zretZ_ok (by decide +kernel) rfl) ?_
  refine zap (zi_mono _ _) (zi_ok (zg_iload_n (j := 2) (by decide +kernel) rfl)) ?_
  refine zap (zcS_mono _ _ _) (zcSN_ok znst_st (μ' := 15) (na := 1) (index := 23) (host := "VectorLanguage") (by decide +kernel) (by decide +kernel) (zgI (zin 220 (by decide +kernel) rfl)) (List.mem_of_getElem? (i := 4) rfl) (zin 1 (by decide +kernel) rfl) (zin 219 (by decide +kernel) rfl) (by decide +kernel) (by decide +kernel)) ?_
  refine zap (zb_mono _ _) (zb_ok (zb_eq (off := 24) (by decide +kernel) (by decide +kernel))) ?_
  refine zap (zi_mono _ _) (zi_ok (zg_aload_n (j := 0) (by decide +kernel) rfl)) ?_
  refine zap (zi_mono _ _) (zi_ok (zg_iload_n (j := 3) (by decide +kernel) rfl)) ?_
  refine zap (zcV_mono _ _ _ _) (zcV_ok znst_st (μ' := 16) (na := 1) (ci := 1) (index := 27) (q := (RC1, FC1, 2)) (by decide +kernel) (by decide +kernel) rfl (zgV (zin 221 (by decide +kernel) rfl) (zin 222 (by decide +kernel) rfl) (zin 223 (by decide +kernel) rfl) (zin 2 (by decide +kernel) rfl) (zin 224 (by decide +kernel) rfl)) (by decide +kernel) (by decide +kernel)) ?_
  refine zap (zb_mono _ _) (zb_ok (zb_eq (off := 16) (by decide +kernel) (by decide +kernel))) ?_
  refine zap (zi_mono _ _) (zi_ok (zg_aload_n (j := 0) (by decide +kernel) rfl)) ?_
  refine zap (zi_mono _ _) (zi_ok (zg_iload (by decide +kernel))) ?_
  refine zap (zcV_mono _ _ _ _) (zcV_ok znst_st (μ' := 16) (na := 1) (ci := 1) (index := 27) (q := (RC1, FC1, 2)) (by decide +kernel) (by decide +kernel) rfl (zgV (zin 221 (by decide +kernel) rfl) (zin 222 (by decide +kernel) rfl) (zin 223 (by decide +kernel) rfl) (zin 2 (by decide +kernel) rfl) (zin 224 (by decide +kernel) rfl)) (by decide +kernel) (by decide +kernel)) ?_
  refine zap (zb_mono _ _) (zb_ok (zb_eq (off := 7) (by decide +kernel) (by decide +kernel))) ?_
  refine zap (zi_mono _ _) (zi_ok (zg_iconst (n := 1) (by decide +kernel) (by decide +kernel))) ?_
  refine zap (zj_mono _) (zj_ok (off := 4) (by decide +kernel) (by decide +kernel)) ?_
  refine zap (zi_mono _ _) (zi_ok (zg_iconst (n := 0) (by decide +kernel) (by decide +kernel))) ?_
  refine zap (zretZ_mono) (zretZ_ok (by decide +kernel) rfl) ?_
  refine zap (zi_mono _ _) (zi_ok (zg_aload_n (j := 0) (by decide +kernel) rfl)) ?_
  refine zap (zi_mono _ _) (zi_ok (zg_iload_n (j := 2) (by decide +kernel) rfl)) ?_
  refine zap (zcV_mono _ _ _ _) (zcV_ok znst_st (μ' := 16) (na := 1) (ci := 1) (index := 27) (q := (RC1, FC1, 2)) (by decide +kernel) (by decide +kernel) rfl (zgV (zin 221 (by decide +kernel) rfl) (zin 222 (by decide +kernel) rfl) (zin 223 (by decide +kernel) rfl) (zin 2 (by decide +kernel) rfl) (zin 224 (by decide +kernel) rfl)) (by decide +kernel) (by decide +kernel)) ?_
  refine zap (zb_mono _ _) (zb_ok (zb_eq (off := 24) (by decide +kernel) (by decide +kernel))) ?_
  refine zap (zi_mono _ _) (zi_ok (zg_aload_n (j := 0) (by decide +kernel) rfl)) ?_
  refine zap (zi_mono _ _) (zi_ok (zg_iload_n (j := 3) (by decide +kernel) rfl)) ?_
  refine zap (zcV_mono _ _ _ _) (zcV_ok znst_st (μ' := 16) (na := 1) (ci := 1) (index := 27) (q := (RC1, FC1, 2)) (by decide +kernel) (by decide +kernel) rfl (zgV (zin 221 (by decide +kernel) rfl) (zin 222 (by decide +kernel) rfl) (zin 223 (by decide +kernel) rfl) (zin 2 (by decide +kernel) rfl) (zin 224 (by decide +kernel) rfl)) (by decide +kernel) (by decide +kernel)) ?_
  refine zap (zb_mono _ _) (zb_ok (zb_eq (off := 16) (by decide +kernel) (by decide +kernel))) ?_
  refine zap (zi_mono _ _) (zi_ok (zg_aload_n (j := 0) (by decide +kernel) rfl)) ?_
  refine zap (zi_mono _ _) (zi_ok (zg_iload (by decide +kernel))) ?_
  refine zap (zcV_mono _ _ _ _) (zcV_ok znst_st (μ' := 17) (na := 1) (ci := 1) (index := 30) (q := (RC1, FC1, 2)) (by decide +kernel) (by decide +kernel) rfl (zgV (zin 225 (by decide +kernel) rfl) (zin 227 (by decide +kernel) rfl) (zsel 0 (by decide +kernel) rfl) (zin 2 (by decide +kernel) rfl) (zin 228 (by decide +kernel) rfl)) (by decide +kernel) (by decide +kernel)) ?_
  refine zap (zb_mono _ _) (zb_ok (zb_eq (off := 7) (by decide +kernel) (by decide +kernel))) ?_
  refine zap (zi_mono _ _) (zi_ok (zg_iconst (n := 1) (by decide +kernel) (by decide +kernel))) ?_
  refine zap (zj_mono _) (zj_ok (off := 4) (by decide +kernel) (by decide +kernel)) ?_
  refine zap (zi_mono _ _) (zi_ok (zg_iconst (n := 0) (by decide +kernel) (by decide +kernel))) ?_
  refine zap (zretZ_mono) (zretZ_ok (by decide +kernel) rfl) ?_
  refine zap (zi_mono _ _) (zi_ok (zg_aload_n (j := 0) (by decide +kernel) rfl)) ?_
  refine zap (zi_mono _ _) (zi_ok (zg_iload_n (j := 2) (by decide +kernel) rfl)) ?_
  refine zap (zcV_mono _ _ _ _) (zcV_ok znst_st (μ' := 16) (na := 1) (ci := 1) (index := 27) (q := (RC1, FC1, 2)) (by decide +kernel) (by decide +kernel) rfl (zgV (zin 221 (by decide +kernel) rfl) (zin 222 (by decide +kernel) rfl) (zin 223 (by decide +kernel) rfl) (zin 2 (by decide +kernel) rfl) (zin 224 (by decide +kernel) rfl)) (by decide +kernel) (by decide +kernel)) ?_
  refine zap (zb_mono _ _) (zb_ok (zb_eq (off := 16) (by decide +kernel) (by decide +kernel))) ?_
  refine zap (zi_mono _ _) (zi_ok (zg_iload_n (j := 3) (by decide +kernel) rfl)) ?_
  refine zap (zi_mono _ _) (zi_ok (zg_iload (by decide +kernel))) ?_
  refine zap (zcS_mono _ _ _) (zcS_ok znst_st (μ' := 18) (na := 2) (index := 33) (by decide +kernel) (by decide +kernel) (zgS (zin 229 (by decide +kernel) rfl) (zin 230 (by decide +kernel) rfl) (zin 2 (by decide +kernel) rfl) (zin 231 (by decide +kernel) rfl)) (by decide +kernel) (by decide +kernel)) ?_
  refine zap (zb_mono _ _) (zb_ok (zb_eq (off := 7) (by decide +kernel) (by decide +kernel))) ?_
  refine zap (zi_mono _ _) (zi_ok (zg_iconst (n := 1) (by decide +kernel) (by decide +kernel))) ?_
  refine zap (zj_mono _) (zj_ok (off := 4) (by decide +kernel) (by decide +kernel)) ?_
  refine zap (zi_mono _ _) (zi_ok (zg_iconst (n := 0) (by decide +kernel) (by decide +kernel))) ?_
  refine zap (zretZ_mono) (zretZ_ok (by decide +kernel) rfl) ?_
  refine zap (zi_mono _ _) (zi_ok (zg_aload_n (j := 0) (by decide +kernel) rfl)) ?_
  refine zap (zi_mono _ _) (zi_ok (zg_iload_n (j := 2) (by decide +kernel) rfl)) ?_
  refine zap (zcV_mono _ _ _ _) (zcV_ok znst_st (μ' := 16) (na := 1) (ci := 1) (index := 27) (q := (RC1, FC1, 2)) (by decide +kernel) (by decide +kernel) rfl (zgV (zin 221 (by decide +kernel) rfl) (zin 222 (by decide +kernel) rfl) (zin 223 (by decide +kernel) rfl) (zin 2 (by decide +kernel) rfl) (zin 224 (by decide +kernel) rfl)) (by decide +kernel) (by decide +kernel)) ?_
  refine zap (zb_mono _ _) (zb_ok (zb_eq (off := 17) (by decide +kernel) (by decide +kernel))) ?_
  refine zap (zi_mono _ _) (zi_ok (zg_aload_n (j := 0) (by decide +kernel) rfl)) ?_
  refine zap (zi_mono _ _) (zi_ok (zg_iload_n (j := 3) (by decide +kernel) rfl)) ?_
  refine zap (zi_mono _ _) (zi_ok (zg_iload (by decide +kernel))) ?_
  refine zap (zcV_mono _ _ _ _) (zcV_ok znst_st (μ' := 19) (na := 2) (ci := 1) (index := 37) (q := (RC1, FC1, 2)) (by decide +kernel) (by decide +kernel) rfl (zgV (zin 232 (by decide +kernel) rfl) (zin 234 (by decide +kernel) rfl) (zsel 1 (by decide +kernel) rfl) (zin 2 (by decide +kernel) rfl) (zin 235 (by decide +kernel) rfl)) (by decide +kernel) (by decide +kernel)) ?_
  refine zap (zb_mono _ _) (zb_ok (zb_eq (off := 7) (by decide +kernel) (by decide +kernel))) ?_
  refine zap (zi_mono _ _) (zi_ok (zg_iconst (n := 1) (by decide +kernel) (by decide +kernel))) ?_
  refine zap (zj_mono _) (zj_ok (off := 4) (by decide +kernel) (by decide +kernel)) ?_
  refine zap (zi_mono _ _) (zi_ok (zg_iconst (n := 0) (by decide +kernel) (by decide +kernel))) ?_
  refine zap (zretZ_mono) (zretZ_ok (by decide +kernel) rfl) ?_
  refine zap (zi_mono _ _) (zi_ok (zg_iconst (n := 0) (by decide +kernel) (by decide +kernel))) ?_
  refine zap (zretZ_mono) (zretZ_ok (by decide +kernel) rfl) ?_
  exact zn
/-- VectorLanguage.isVariable(I)Z -/
def tb15 (_ : List (ClassId × FieldType)) : List (Nat × (zP → zP)) := [(0, zi (gIl 0) 1), (1, zb (c1 (fun x => x < 0)) 14), (4, zi (gIl 0) 1), (5, zi (gC (.int (10))) 2), (7, zb (c2 (fun x y => y ≤ x)) 14), (10, zi (gC (.int (1))) 1), (11, zj 15), (14, zi (gC (.int (0))) 1), (15, zretZ)]
set_option maxRecDepth 100000 in
theorem ok15 (l : Launch) (D : va_G) (dA : Nat → ClassId) (b0 : Nat) : ∀ q ∈ tb15 (ztys dA), zOK l D dA b0 15 q.1 q.2 := by
  refine zap (zi_mono _ _) (zi_ok (zg_iload_n (j := 0) (by decide +kernel) rfl)) ?_
  refine zap (zb_mono _ _) (zb_ok (zb_lt (off := 13) (by decide +kernel) (by decide +kernel))) ?_
  refine zap (zi_mono _ _) (zi_ok (zg_iload_n (j := 0) (by decide +kernel) rfl)) ?_
  refine zap (zi_mono _ _) (zi_ok (zg_bipush (n := 10) (by decide +kernel) (by decide +kernel))) ?_
  refine zap (zb_mono _ _) (zb_ok (zb_ige (off := 7) (by decide +kernel) (by decide +kernel))) ?_
  refine zap (zi_mono _ _) (zi_ok (zg_iconst (n := 1) (by decide +kernel) (by decide +kernel))) ?_
  refine zap (zj_mono _) (zj_ok (off := 4) (by decide +kernel) (by decide +kernel)) ?_
  refine zap (zi_mono _ _) (zi_ok (zg_iconst (n := 0) (by decide +kernel) (by decide +kernel))) ?_
  refine zap (zretZ_mono) (zretZ_ok (by decide +kernel) rfl) ?_
  exact zn
/-- VectorLanguage$Program.has(I)Z -/
def tb16 (_ : List (ClassId × FieldType)) : List (Nat × (zP → zP)) := [(0, zi (gIl 1) 1), (1, zb (c1 (fun x => x < 0)) 16), (4, zi (gIl 1) 1), (5, zi (gAl 0) 1), (6, zget 1 1), (9, zb (c2 (fun x y => y ≤ x)) 16), (12, zi (gC (.int (1))) 1), (13, zj 17), (16, zi (gC (.int (0))) 1), (17, zretZ)]
set_option maxRecDepth 100000 in
theorem ok16 (l : Launch) (D : va_G) (dA : Nat → ClassId) (b0 : Nat) : ∀ q ∈ tb16 (ztys dA), zOK l D dA b0 16 q.1 q.2 := by
  refine zap (zi_mono _ _) (zi_ok (zg_iload_n (j := 1) (by decide +kernel) rfl)) ?_
  refine zap (zb_mono _ _) (zb_ok (zb_lt (off := 15) (by decide +kernel) (by decide +kernel))) ?_
  refine zap (zi_mono _ _) (zi_ok (zg_iload_n (j := 1) (by decide +kernel) rfl)) ?_
  refine zap (zi_mono _ _) (zi_ok (zg_aload_n (j := 0) (by decide +kernel) rfl)) ?_
  refine zap (zget_mono _ _) (zget_ok (index := 17) (C := RC1) (ref := "VectorLanguage$Program") (T := FC1) (NN := 2) (by decide +kernel) rfl iC1 (by decide +kernel) (zin 44 (by decide +kernel) rfl) rfl) ?_
  refine zap (zb_mono _ _) (zb_ok (zb_ige (off := 7) (by decide +kernel) (by decide +kernel))) ?_
  refine zap (zi_mono _ _) (zi_ok (zg_iconst (n := 1) (by decide +kernel) (by decide +kernel))) ?_
  refine zap (zj_mono _) (zj_ok (off := 4) (by decide +kernel) (by decide +kernel)) ?_
  refine zap (zi_mono _ _) (zi_ok (zg_iconst (n := 0) (by decide +kernel) (by decide +kernel))) ?_
  refine zap (zretZ_mono) (zretZ_ok (by decide +kernel) rfl) ?_
  exact zn
/-- VectorLanguage$Program.hasOrNone(I)Z -/
def tb17 (_ : List (ClassId × FieldType)) : List (Nat × (zP → zP)) := [(0, zi (gIl 1) 1), (1, zi (gC (.int (-1))) 1), (2, zb (c2 (fun x y => x = y)) 13), (5, zi (gAl 0) 1), (6, zi (gIl 1) 1), (7, zcV 2 16 1 1), (10, zb (c1 (fun x => x = 0)) 17), (13, zi (gC (.int (1))) 1), (14, zj 18), (17, zi (gC (.int (0))) 1), (18, zretZ)]
set_option maxRecDepth 100000 in
theorem ok17 (l : Launch) (D : va_G) (dA : Nat → ClassId) (b0 : Nat) : ∀ q ∈ tb17 (ztys dA), zOK l D dA b0 17 q.1 q.2 := by
  refine zap (zi_mono _ _) (zi_ok (zg_iload_n (j := 1) (by decide +kernel) rfl)) ?_
  refine zap (zi_mono _ _) (zi_ok (zg_iconst (n := -1) (by decide +kernel) (by decide +kernel))) ?_
  refine zap (zb_mono _ _) (zb_ok (zb_ieq (off := 11) (by decide +kernel) (by decide +kernel))) ?_
  refine zap (zi_mono _ _) (zi_ok (zg_aload_n (j := 0) (by decide +kernel) rfl)) ?_
  refine zap (zi_mono _ _) (zi_ok (zg_iload_n (j := 1) (by decide +kernel) rfl)) ?_
  refine zap (zcV_mono _ _ _ _) (zcV_ok znst_st (μ' := 16) (na := 1) (ci := 1) (index := 27) (q := (RC1, FC1, 2)) (by decide +kernel) (by decide +kernel) rfl (zgV (zin 221 (by decide +kernel) rfl) (zin 222 (by decide +kernel) rfl) (zin 223 (by decide +kernel) rfl) (zin 2 (by decide +kernel) rfl) (zin 224 (by decide +kernel) rfl)) (by decide +kernel) (by decide +kernel)) ?_
  refine zap (zb_mono _ _) (zb_ok (zb_eq (off := 7) (by decide +kernel) (by decide +kernel))) ?_
  refine zap (zi_mono _ _) (zi_ok (zg_iconst (n := 1) (by decide +kernel) (by decide +kernel))) ?_
  refine zap (zj_mono _) (zj_ok (off := 4) (by decide +kernel) (by decide +kernel)) ?_
  refine zap (zi_mono _ _) (zi_ok (zg_iconst (n := 0) (by decide +kernel) (by decide +kernel))) ?_
  refine zap (zretZ_mono) (zretZ_ok (by decide +kernel) rfl) ?_
  exact zn
/-- VectorLanguage$Program.acceptsParameters(II)Z -/
def tb18 (_ : List (ClassId × FieldType)) : List (Nat × (zP → zP)) := [(0, zi (gIl 0) 1), (1, zb (c1 (fun x => x < 0)) 9), (4, zi (gIl 0) 1), (5, zi (gC (.int (2))) 1), (6, zb (c2 (fun x y => x ≤ y)) 11), (9, zi (gC (.int (0))) 1), (10, zretZ), (11, zi (gIl 0) 1), (12, zb (c1 (fun x => x = 0)) 27), (15, zi (gIl 1) 1), (16, zb (c1 (fun x => x < 0)) 31), (19, zi (gIl 1) 1), (20, zi (gC (.int (10))) 2), (22, zi (gIl 0) 1), (23, zi (gII (fun x y => x - y)) 1), (24, zb (c2 (fun x y => y < x)) 31), (27, zi (gC (.int (1))) 1), (28, zj 32), (31, zi (gC (.int (0))) 1), (32, zretZ)]
set_option maxRecDepth 100000 in
theorem ok18 (l : Launch) (D : va_G) (dA : Nat → ClassId) (b0 : Nat) : ∀ q ∈ tb18 (ztys dA), zOK l D dA b0 18 q.1 q.2 := by
  refine zap (zi_mono _ _) (zi_ok (zg_iload_n (j := 0) (by decide +kernel) rfl)) ?_
  refine zap (zb_mono _ _) (zb_ok (zb_lt (off := 8) (by decide +kernel) (by decide +kernel))) ?_
  refine zap (zi_mono _ _) (zi_ok (zg_iload_n (j := 0) (by decide +kernel) rfl)) ?_
  refine zap (zi_mono _ _) (zi_ok (zg_iconst (n := 2) (by decide +kernel) (by decide +kernel))) ?_
  refine zap (zb_mono _ _) (zb_ok (zb_ile (off := 5) (by decide +kernel) (by decide +kernel))) ?_
  refine zap (zi_mono _ _) (zi_ok (zg_iconst (n := 0) (by decide +kernel) (by decide +kernel))) ?_
  refine zap (zretZ_mono) (zretZ_ok (by decide +kernel) rfl) ?_
  refine zap (zi_mono _ _) (zi_ok (zg_iload_n (j := 0) (by decide +kernel) rfl)) ?_
  refine zap (zb_mono _ _) (zb_ok (zb_eq (off := 15) (by decide +kernel) (by decide +kernel))) ?_
  refine zap (zi_mono _ _) (zi_ok (zg_iload_n (j := 1) (by decide +kernel) rfl)) ?_
  refine zap (zb_mono _ _) (zb_ok (zb_lt (off := 15) (by decide +kernel) (by decide +kernel))) ?_
  refine zap (zi_mono _ _) (zi_ok (zg_iload_n (j := 1) (by decide +kernel) rfl)) ?_
  refine zap (zi_mono _ _) (zi_ok (zg_bipush (n := 10) (by decide +kernel) (by decide +kernel))) ?_
  refine zap (zi_mono _ _) (zi_ok (zg_iload_n (j := 0) (by decide +kernel) rfl)) ?_
  refine zap (zi_mono _ _) (zi_ok (zg_isub (by decide +kernel))) ?_
  refine zap (zb_mono _ _) (zb_ok (zb_igt (off := 7) (by decide +kernel) (by decide +kernel))) ?_
  refine zap (zi_mono _ _) (zi_ok (zg_iconst (n := 1) (by decide +kernel) (by decide +kernel))) ?_
  refine zap (zj_mono _) (zj_ok (off := 4) (by decide +kernel) (by decide +kernel)) ?_
  refine zap (zi_mono _ _) (zi_ok (zg_iconst (n := 0) (by decide +kernel) (by decide +kernel))) ?_
  refine zap (zretZ_mono) (zretZ_ok (by decide +kernel) rfl) ?_
  exact zn
/-- VectorLanguage$Program.acceptsArguments(II)Z -/
def tb19 (_ : List (ClassId × FieldType)) : List (Nat × (zP → zP)) := [(0, zi (gIl 1) 1), (1, zi (gC (.int (-1))) 1), (2, zb (c2 (fun x y => ¬ x = y)) 18), (5, zi (gIl 2) 1), (6, zi (gC (.int (-1))) 1), (7, zb (c2 (fun x y => ¬ x = y)) 14), (10, zi (gC (.int (1))) 1), (11, zj 39), (14, zi (gC (.int (0))) 1), (15, zj 39), (18, zi (gAl 0) 1), (19, zi (gIl 1) 1), (20, zcV 2 16 1 1), (23, zb (c1 (fun x => x = 0)) 38), (26, zi (gAl 0) 1), (27, zi (gIl 2) 1), (28, zcV 2 17 1 1), (31, zb (c1 (fun x => x = 0)) 38), (34, zi (gC (.int (1))) 1), (35, zj 39), (38, zi (gC (.int (0))) 1), (39, zretZ)]
set_option maxRecDepth 100000 in
theorem ok19 (l : Launch) (D : va_G) (dA : Nat → ClassId) (b0 : Nat) : ∀ q ∈ tb19 (ztys dA), zOK l D dA b0 19 q.1 q.2 := by
  refine zap (zi_mono _ _) (zi_ok (zg_iload_n (j := 1) (by decide +kernel) rfl)) ?_
  refine zap (zi_mono _ _) (zi_ok (zg_iconst (n := -1) (by decide +kernel) (by decide +kernel))) ?_
  refine zap (zb_mono _ _) (zb_ok (zb_ine (off := 16) (by decide +kernel) (by decide +kernel))) ?_
  refine zap (zi_mono _ _) (zi_ok (zg_iload_n (j := 2) (by decide +kernel) rfl)) ?_
  refine zap (zi_mono _ _) (zi_ok (zg_iconst (n := -1) (by decide +kernel) (by decide +kernel))) ?_
  refine zap (zb_mono _ _) (zb_ok (zb_ine (off := 7) (by decide +kernel) (by decide +kernel))) ?_
  refine zap (zi_mono _ _) (zi_ok (zg_iconst (n := 1) (by decide +kernel) (by decide +kernel))) ?_
  refine zap (zj_mono _) (zj_ok (off := 28) (by decide +kernel) (by decide +kernel)) ?_
  refine zap (zi_mono _ _) (zi_ok (zg_iconst (n := 0) (by decide +kernel) (by decide +kernel))) ?_
  refine zap (zj_mono _) (zj_ok (off := 24) (by decide +kernel) (by decide +kernel)) ?_
  refine zap (zi_mono _ _) (zi_ok (zg_aload_n (j := 0) (by decide +kernel) rfl)) ?_
  refine zap (zi_mono _ _) (zi_ok (zg_iload_n (j := 1) (by decide +kernel) rfl)) ?_
  refine zap (zcV_mono _ _ _ _) (zcV_ok znst_st (μ' := 16) (na := 1) (ci := 1) (index := 27) (q := (RC1, FC1, 2)) (by decide +kernel) (by decide +kernel) rfl (zgV (zin 221 (by decide +kernel) rfl) (zin 222 (by decide +kernel) rfl) (zin 223 (by decide +kernel) rfl) (zin 2 (by decide +kernel) rfl) (zin 224 (by decide +kernel) rfl)) (by decide +kernel) (by decide +kernel)) ?_
  refine zap (zb_mono _ _) (zb_ok (zb_eq (off := 15) (by decide +kernel) (by decide +kernel))) ?_
  refine zap (zi_mono _ _) (zi_ok (zg_aload_n (j := 0) (by decide +kernel) rfl)) ?_
  refine zap (zi_mono _ _) (zi_ok (zg_iload_n (j := 2) (by decide +kernel) rfl)) ?_
  refine zap (zcV_mono _ _ _ _) (zcV_ok znst_st (μ' := 17) (na := 1) (ci := 1) (index := 30) (q := (RC1, FC1, 2)) (by decide +kernel) (by decide +kernel) rfl (zgV (zin 225 (by decide +kernel) rfl) (zin 227 (by decide +kernel) rfl) (zsel 0 (by decide +kernel) rfl) (zin 2 (by decide +kernel) rfl) (zin 228 (by decide +kernel) rfl)) (by decide +kernel) (by decide +kernel)) ?_
  refine zap (zb_mono _ _) (zb_ok (zb_eq (off := 7) (by decide +kernel) (by decide +kernel))) ?_
  refine zap (zi_mono _ _) (zi_ok (zg_iconst (n := 1) (by decide +kernel) (by decide +kernel))) ?_
  refine zap (zj_mono _) (zj_ok (off := 4) (by decide +kernel) (by decide +kernel)) ?_
  refine zap (zi_mono _ _) (zi_ok (zg_iconst (n := 0) (by decide +kernel) (by decide +kernel))) ?_
  refine zap (zretZ_mono) (zretZ_ok (by decide +kernel) rfl) ?_
  exact zn
end
