/-! Worlds as maps: what lies at an address. A call hands the whole world on; its contract says how the map changes. -/
abbrev ww_W : Type := Nat → Option va_E
def ww_l (w : ww_W) (z : Nat) : va_W := (List.range z).filterMap fun a => (w a).map fun e => (a, e)
theorem ww_l_mem {w : ww_W} {z : Nat} {q : Nat × va_E} : q ∈ ww_l w z ↔ q.1 < z ∧ w q.1 = some q.2 := by
  unfold ww_l
  rw [List.mem_filterMap]
  constructor
  · rintro ⟨a, ha, h⟩
    cases hw : w a with
    | none => rw [hw] at h; cases h
    | some e =>
      rw [hw] at h
      cases h
      exact ⟨List.mem_range.mp ha, hw⟩
  · rintro ⟨h1, h2⟩
    exact ⟨q.1, List.mem_range.mpr h1, by rw [h2]; rfl⟩
theorem ww_l_fst (w : ww_W) (l : List Nat) : (l.filterMap fun a => (w a).map fun e => (a, e)).map (fun q : Nat × va_E => q.1) = l.filter (fun a => (w a).isSome) := by
  induction l with
  | nil => rfl
  | cons a l ih =>
    cases hw : w a with
    | none =>
      rw [List.filterMap_cons_none (by simp [hw]), List.filter_cons_of_neg (by simp [hw])]
      exact ih
    | some e =>
      rw [List.filterMap_cons_some (b := (a, e)) (by simp [hw]), List.filter_cons_of_pos (by simp [hw]), List.map_cons, ih]
theorem ww_l_nd (w : ww_W) (z : Nat) : ((ww_l w z).map (fun q : Nat × va_E => q.1)).Nodup := by
  unfold ww_l
  rw [ww_l_fst]
  exact List.Pairwise.filter _ List.nodup_range
theorem ww_l_D {b0 : Nat} {w : ww_W} {z : Nat} (hb : ∀ (a : Nat) (e : va_E), w a = some e → b0 ≤ a) : va_D (fun q => b0 ≤ q) (ww_l w z) := by
  refine ⟨fun i j p q hi hj hpq => ?_, fun k q hk => hb _ _ (ww_l_mem.mp (List.mem_of_getElem? hk)).2⟩
  have hl : i < ((ww_l w z).map (fun q : Nat × va_E => q.1)).length := by rw [List.length_map]; exact (List.getElem?_eq_some_iff.mp hi).1
  refine (List.getElem?_inj hl (ww_l_nd w z)).mp ?_
  rw [List.getElem?_map, List.getElem?_map, hi, hj, Option.map_some, Option.map_some, hpq]
/-- H holds the world w: nothing of it lies under b0; what lies under b0 is as at H0 -/
def ww_I (D : va_G) (cl : List vw_C) (b0 : Nat) (w : ww_W) (H0 H : Heap) (locs : List Loc) : Prop :=
  (∀ (a : Nat) (e : va_E), w a = some e → va_at D cl (a, e) H ∧ b0 ≤ a) ∧ va_S (fun q => b0 ≤ q) H0 H locs ∧ b0 ≤ H0.size
theorem ww_I.P {D : va_G} {cl : List vw_C} {b0 : Nat} {w : ww_W} {H0 H : Heap} {locs : List Loc} (h : ww_I D cl b0 w H0 H locs) : va_P D cl (ww_l w H.size) H := fun _ _ hk => (h.1 _ _ (ww_l_mem.mp (List.mem_of_getElem? hk)).2).1
theorem ww_I.D {D : va_G} {cl : List vw_C} {b0 : Nat} {w : ww_W} {H0 H : Heap} {locs : List Loc} (h : ww_I D cl b0 w H0 H locs) (z : Nat) : va_D (fun q => b0 ≤ q) (ww_l w z) := ww_l_D (fun a e h1 => (h.1 a e h1).2)
theorem ww_I.lt {D : va_G} {cl : List vw_C} {b0 : Nat} {w : ww_W} {H0 H : Heap} {locs : List Loc} (h : ww_I D cl b0 w H0 H locs) {a : Nat} {e : va_E} (he : w a = some e) : a < H.size := (h.1 a e he).1.lt
theorem ww_I.ix {D : va_G} {cl : List vw_C} {b0 : Nat} {w : ww_W} {H0 H : Heap} {locs : List Loc} (h : ww_I D cl b0 w H0 H locs) {a : Nat} {e : va_E} (he : w a = some e) : ∃ q0 : Nat, (ww_l w H.size)[q0]? = some (a, e) :=
  List.getElem?_of_mem (ww_l_mem.mpr ⟨h.lt he, he⟩)
theorem ww_one {D : va_G} {cl : List vw_C} {H : Heap} {a : Nat} {e : va_E} (h : va_at D cl (a, e) H) : va_P D cl [(a, e)] H := by
  intro k q hk
  have hz : k < 1 := (List.getElem?_eq_some_iff.mp hk).1
  rw [show k = 0 by omega] at hk
  cases hk
  exact h
theorem ww_set {D : va_G} {cl : List vw_C} {w : ww_W} {z q0 a : Nat} {e0 e : va_E} {H1 : Heap} (hz : ∀ (a : Nat) (e : va_E), w a = some e → a < z) (h0 : (ww_l w z)[q0]? = some (a, e0)) (hP : va_P D cl ((ww_l w z).set q0 (a, e)) H1) :
    ∀ (b : Nat) (x : va_E), va_up w a (some e) b = some x → va_at D cl (b, x) H1 := by
  intro b x hb
  have hl := (List.getElem?_eq_some_iff.mp h0).1
  by_cases hba : b = a
  · subst hba
    rw [va_up_self] at hb
    cases hb
    exact hP q0 _ (List.getElem?_set_self hl)
  · rw [va_up_ne _ _ hba] at hb
    obtain ⟨j, hj⟩ := List.getElem?_of_mem (ww_l_mem.mpr ⟨hz b x hb, hb⟩ : (b, x) ∈ ww_l w z)
    have hjq : q0 ≠ j := fun q => by
      subst q
      rw [h0] at hj
      exact hba (congrArg Prod.fst (Option.some.inj hj)).symm
    exact hP j _ (by rw [List.getElem?_set_ne hjq]; exact hj)
theorem ww_app {D : va_G} {cl : List vw_C} {w : ww_W} {z q : Nat} {e : va_E} {H1 : Heap} (hz : ∀ (a : Nat) (e : va_E), w a = some e → a < z) (hP : va_P D cl (ww_l w z ++ [(q, e)]) H1) :
    ∀ (b : Nat) (x : va_E), va_up w q (some e) b = some x → va_at D cl (b, x) H1 := by
  intro b x hb
  by_cases hba : b = q
  · subst hba
    rw [va_up_self] at hb
    cases hb
    exact hP (ww_l w z).length _ (by rw [List.getElem?_append_right (Nat.le_refl _), Nat.sub_self]; rfl)
  · rw [va_up_ne _ _ hba] at hb
    obtain ⟨j, hj⟩ := List.getElem?_of_mem (ww_l_mem.mpr ⟨hz b x hb, hb⟩ : (b, x) ∈ ww_l w z)
    exact hP j _ (by rw [List.getElem?_append_left (List.getElem?_eq_some_iff.mp hj).1]; exact hj)
theorem ww_fresh {A : Nat → Prop} {w : ww_W} {z q : Nat} {e : va_E} (hz : ∀ (a : Nat) (e : va_E), w a = some e → a < z) (hD : va_D A (ww_l w z ++ [(q, e)])) : w q = none := by
  cases hw : w q with
  | none => rfl
  | some x =>
    obtain ⟨j, hj⟩ := List.getElem?_of_mem (ww_l_mem.mpr ⟨hz q x hw, hw⟩ : (q, x) ∈ ww_l w z)
    have hl := (List.getElem?_eq_some_iff.mp hj).1
    have := hD.1 j (ww_l w z).length (q, x) (q, e) (by rw [List.getElem?_append_left hl]; exact hj) (by rw [List.getElem?_append_right (Nat.le_refl _), Nat.sub_self]; rfl) rfl
    omega
theorem ww_up_b {w : ww_W} {b0 a : Nat} {e : va_E} (h : ∀ (a : Nat) (e : va_E), w a = some e → b0 ≤ a) (ha : b0 ≤ a) : ∀ (b : Nat) (x : va_E), va_up w a (some e) b = some x → b0 ≤ b := by
  intro b x hb
  by_cases hba : b = a
  · subst hba; exact ha
  · rw [va_up_ne _ _ hba] at hb
    exact h b x hb
theorem ww_I.set {D : va_G} {cl : List vw_C} {b0 : Nat} {w : ww_W} {H0 H H1 : Heap} {locs locs1 : List Loc} {q0 a : Nat} {e0 e : va_E} (h : ww_I D cl b0 w H0 H locs) (h0 : (ww_l w H.size)[q0]? = some (a, e0)) (hP : va_P D cl ((ww_l w H.size).set q0 (a, e)) H1) (hS : va_S (fun q => b0 ≤ q) H0 H1 locs1) : ww_I D cl b0 (va_up w a (some e)) H0 H1 locs1 :=
  ⟨fun b x hb => ⟨ww_set (fun _ _ he => h.lt he) h0 hP b x hb, ww_up_b (fun a e h1 => (h.1 a e h1).2) (h.1 a e0 (ww_l_mem.mp (List.mem_of_getElem? h0)).2).2 b x hb⟩, hS, h.2.2⟩
theorem ww_I.push {D : va_G} {cl : List vw_C} {b0 : Nat} {w : ww_W} {H0 H H1 : Heap} {locs locs1 : List Loc} {q : Nat} {e : va_E} (h : ww_I D cl b0 w H0 H locs) (hP : va_P D cl (ww_l w H.size ++ [(q, e)]) H1) (hD : va_D (fun q => b0 ≤ q) (ww_l w H.size ++ [(q, e)])) (hS : va_S (fun q => b0 ≤ q) H0 H1 locs1) : ww_I D cl b0 (va_up w q (some e)) H0 H1 locs1 :=
  ⟨fun b x hb => ⟨ww_app (fun _ _ he => h.lt he) hP b x hb, ww_up_b (fun a e h1 => (h.1 a e h1).2) (hD.2 (ww_l w H.size).length (q, e) (by rw [List.getElem?_append_right (Nat.le_refl _), Nat.sub_self]; rfl)) b x hb⟩, hS, h.2.2⟩
/-! room: how many slots a heap has; W's figures can be drawn in to what the heap shows -/
def ww_t (H : Heap) : Nat := (H.toList.map (fun c : Cell => c.slots.size)).sum
theorem ww_sum {s T : State} {locs : List Loc} {cells slots : Nat} (h : s.sameButNew T locs cells slots) : ww_t T.heap = ww_t s.heap + ((T.heap.toList.drop s.heap.size).map (fun c : Cell => c.slots.size)).sum := by
  have h1 : (T.heap.toList.take s.heap.size).map (fun c : Cell => c.slots.size) = s.heap.toList.map (fun c : Cell => c.slots.size) := by
    apply List.ext_getElem?
    intro i
    rw [List.getElem?_map, List.getElem?_map, List.getElem?_take]
    by_cases hi : i < s.heap.size
    · rw [if_pos hi, Array.getElem?_toList, Array.getElem?_toList]
      obtain ⟨c', g1, -, g2, -⟩ := h.2.2.2.2.2 i s.heap[i] (Array.getElem?_eq_getElem hi)
      rw [g1, Array.getElem?_eq_getElem hi, Option.map_some, Option.map_some, g2]
    · rw [if_neg hi, Array.getElem?_toList, Array.getElem?_eq_none (Nat.not_lt.mp hi)]
  unfold ww_t
  rw [← h1, ← List.sum_append, ← List.map_append, List.take_append_drop]
section WW1
variable {p : Program} {l : Launch} {e : Env} {R : Room} {s : State} {m : MethodId} {args : Array Value} {below : List Frame} {meth : Method} {c : Code} {H : Heap} {locs : List Loc} {cells slots : Nat} {Q : State → Prop}
theorem ww_know {g : JFrame} (k : H.size ≤ s.heap.size + cells → ww_t H ≤ ww_t s.heap + slots → W p l e R s m args below meth c H locs cells slots Q g) : W p l e R s m args below meth c H locs cells slots Q g := by
  intro T hT X
  have hs := X.same
  have h1 : ww_t T.heap = ww_t s.heap + ((T.heap.toList.drop s.heap.size).map (fun c : Cell => c.slots.size)).sum := ww_sum (T := T.setVm s.vm) hs
  have h2 : T.heap.size ≤ s.heap.size + cells := hs.2.2.1
  have h3 : ((T.heap.toList.drop s.heap.size).map (fun c : Cell => c.slots.size)).sum ≤ slots := hs.2.2.2.2.1
  exact k (by rw [← hT]; exact h2) (by rw [← hT]; omega) T hT X
theorem ww_tight {g : JFrame} {k n : Nat} (h1 : H.size ≤ s.heap.size + k) (h2 : ww_t H ≤ ww_t s.heap + n) (kk : W p l e R s m args below meth c H locs k n Q g) : W p l e R s m args below meth c H locs cells slots Q g := by
  intro T hT X
  have hs := X.same
  have g1 : ww_t T.heap = ww_t s.heap + ((T.heap.toList.drop s.heap.size).map (fun c : Cell => c.slots.size)).sum := ww_sum (T := T.setVm s.vm) hs
  obtain ⟨a1, a2, a3, a4, a5, a6⟩ := hs
  refine kk T hT { X with same := ⟨a1, a2, ?_, a4, ?_, a6⟩ }
  · show T.heap.size ≤ _
    rw [hT]; exact h1
  · show ((T.heap.toList.drop s.heap.size).map (fun c : Cell => c.slots.size)).sum ≤ n
    rw [hT] at g1 ⊢
    omega
end WW1
/-! rows: an instruction each -/
section WW2
variable {p : Program} {l : Launch} {e : Env} {R : Room} {s : State} {m : MethodId} {args : Array Value} {below : List Frame} {meth : Method} {c : Code} {H : Heap} {locs : List Loc} {cells slots : Nat} {Q : State → Prop}
variable {cc : ByteArray} {pc : Nat} {ls : Array Slot} {rest : List Value} {D : va_G} {cl : List vw_C} {b0 : Nat} {a : Nat} {tys : List (ClassId × FieldType)} {w : ww_W} {H0 : Heap}
theorem ww_recv {ci : Nat} {q : vw_C} {fs : List Value} (hK : va_K D cl tys s) (hI : ww_I D cl b0 w H0 H locs) (hc : cl[ci]? = some q) (he : w a = some (.inr (ci, fs))) : ∃ cell : Cell, H[a]? = some cell ∧ cell.vm.isStatics = false ∧ s.vm.findClass q.1 = some cell.cls :=
  va_recv (q0 := 0) hK (ww_one (hI.1 _ _ he).1) hc rfl
theorem ww_get (hexec : p.tables.exec = Jvm.exec) (hb : c.code = cc) {own ref C : String} {T : u_T} {N ci index : Nat} {Ts : List Cond} (hts : ∀ w ∈ Ts, w.before args s = true) (hin : ∀ w ∈ u_ws C T N, w ∈ Ts) (hown : s.vm.findClass own = some m.cls) (hK : va_K D cl tys s) (hI : ww_I D cl b0 w H0 H locs) {fs : List Value} (he : w a = some (.inr (ci, fs))) (hc : cl[ci]? = some (C, T, N)) (k : Nat) (hk : k < N) (hlink : (Cond.fieldLink own index ref (T k).2.1 (T k).2.2.1).before args s = true) (hsame : ∀ x, s.fieldFound? (T k).1 (T k).2.1 (T k).2.2.1 = some x → s.fieldFound? ref (T k).2.1 (T k).2.2.1 = some x) {v : Value} (hv : fs[k]? = some v) (hdg : decode cc pc = .ok (.getfield index, 3))
    (kk : W p l e R s m args below meth c H locs cells slots Q (F0 m (pc + 3) ls (v :: rest))) : W p l e R s m args below meth c H locs cells slots Q (F0 m pc ls (.ref a :: rest)) :=
  va_get hexec hb hts hin hown hK (ww_one (hI.1 _ _ he).1) 0 rfl hc k hk hlink hsame hv hdg kk
theorem ww_getN (hexec : p.tables.exec = Jvm.exec) (hb : c.code = cc) {own ref C host : String} {T : u_T} {N ci index : Nat} {Ts : List Cond} (hts : ∀ w ∈ Ts, w.before args s = true) (hin : ∀ w ∈ u_ws C T N, w ∈ Ts) (hown : s.vm.findClass own = some m.cls) (hK : va_K D cl tys s) (hI : ww_I D cl b0 w H0 H locs) {fs : List Value} (he : w a = some (.inr (ci, fs))) (hc : cl[ci]? = some (C, T, N)) (k : Nat) (hk : k < N) (hlink : (Cond.fieldLinkNest own index ref (T k).2.1 (T k).2.2.1 host).before args s = true) (hsame : ∀ x, s.fieldFound? (T k).1 (T k).2.1 (T k).2.2.1 = some x → s.fieldFound? ref (T k).2.1 (T k).2.2.1 = some x) {v : Value} (hv : fs[k]? = some v) (hdg : decode cc pc = .ok (.getfield index, 3))
    (kk : W p l e R s m args below meth c H locs cells slots Q (F0 m (pc + 3) ls (v :: rest))) : W p l e R s m args below meth c H locs cells slots Q (F0 m pc ls (.ref a :: rest)) :=
  va_getN hexec hb hts hin hown hK (ww_one (hI.1 _ _ he).1) 0 rfl hc k hk hlink hsame hv hdg kk
theorem ww_put (hexec : p.tables.exec = Jvm.exec) (hb : c.code = cc) {own ref C : String} {T : u_T} {N ci index : Nat} {Ts : List Cond} (hts : ∀ w ∈ Ts, w.before args s = true) (hin : ∀ w ∈ u_ws C T N, w ∈ Ts) (ty0 : Nat → FieldType) (hty : ∀ k, k < N → parseFieldDescriptor (T k).2.2.1 = some (ty0 k)) (hnm : ∀ a, a < N → ∀ b, b < N → a ≠ b → (T a).2.1 ≠ (T b).2.1) (hown : s.vm.findClass own = some m.cls) (hK : va_K D cl tys s) (hI : ww_I D cl b0 w H0 H locs) {fs : List Value} (he : w a = some (.inr (ci, fs))) (hc : cl[ci]? = some (C, T, N)) (k : Nat) (hk : k < N) (hlink : (Cond.fieldLink own index ref (T k).2.1 (T k).2.2.1).before args s = true) (hsame : ∀ x, s.fieldFound? (T k).1 (T k).2.1 (T k).2.2.1 = some x → s.fieldFound? ref (T k).2.1 (T k).2.2.1 = some x) (hfin : (T k).2.2.2 = false) {ty : FieldType} {v : Value} (hd : parseFieldDescriptor (T k).2.2.1 = some ty) (hn : narrow ty v = v) (hfit : fits ty v = true) (hl : k < fs.length)
    (hdg : decode cc pc = .ok (.putfield index, 3)) (kk : ∀ (H1 : Heap) (locs1 : List Loc), ww_I D cl b0 (va_up w a (some (.inr (ci, fs.set k v)))) H0 H1 locs1 → W p l e R s m args below meth c H1 locs1 cells slots Q (F0 m (pc + 3) ls rest)) : W p l e R s m args below meth c H locs cells slots Q (F0 m pc ls (v :: .ref a :: rest)) := by
  obtain ⟨q0, h0⟩ := hI.ix he
  exact va_put hexec hb hts hin ty0 hty hnm hown hK hI.P (hI.D _) hI.2.1 q0 h0 hc k hk hlink hsame hfin hd hn hfit hl hdg (fun H1 locs1 hP _ hS => kk H1 locs1 (hI.set h0 hP hS))
theorem ww_putN (hexec : p.tables.exec = Jvm.exec) (hb : c.code = cc) {own ref C host : String} {T : u_T} {N ci index : Nat} {Ts : List Cond} (hts : ∀ w ∈ Ts, w.before args s = true) (hin : ∀ w ∈ u_ws C T N, w ∈ Ts) (ty0 : Nat → FieldType) (hty : ∀ k, k < N → parseFieldDescriptor (T k).2.2.1 = some (ty0 k)) (hnm : ∀ a, a < N → ∀ b, b < N → a ≠ b → (T a).2.1 ≠ (T b).2.1) (hown : s.vm.findClass own = some m.cls) (hK : va_K D cl tys s) (hI : ww_I D cl b0 w H0 H locs) {fs : List Value} (he : w a = some (.inr (ci, fs))) (hc : cl[ci]? = some (C, T, N)) (k : Nat) (hk : k < N) (hlink : (Cond.fieldLinkNest own index ref (T k).2.1 (T k).2.2.1 host).before args s = true) (hsame : ∀ x, s.fieldFound? (T k).1 (T k).2.1 (T k).2.2.1 = some x → s.fieldFound? ref (T k).2.1 (T k).2.2.1 = some x) (hfin : (T k).2.2.2 = false) {ty : FieldType} {v : Value} (hd : parseFieldDescriptor (T k).2.2.1 = some ty) (hn : narrow ty v = v) (hfit : fits ty v = true) (hl : k < fs.length)
    (hdg : decode cc pc = .ok (.putfield index, 3)) (kk : ∀ (H1 : Heap) (locs1 : List Loc), ww_I D cl b0 (va_up w a (some (.inr (ci, fs.set k v)))) H0 H1 locs1 → W p l e R s m args below meth c H1 locs1 cells slots Q (F0 m (pc + 3) ls rest)) : W p l e R s m args below meth c H locs cells slots Q (F0 m pc ls (v :: .ref a :: rest)) := by
  obtain ⟨q0, h0⟩ := hI.ix he
  exact va_putN hexec hb hts hin ty0 hty hnm hown hK hI.P (hI.D _) hI.2.1 q0 h0 hc k hk hlink hsame hfin hd hn hfit hl hdg (fun H1 locs1 hP _ hS => kk H1 locs1 (hI.set h0 hP hS))
theorem ww_putF (hexec : p.tables.exec = Jvm.exec) (hb : c.code = cc) {own ref C : String} {T : u_T} {N ci index : Nat} {Ts : List Cond} (hts : ∀ w ∈ Ts, w.before args s = true) (hin : ∀ w ∈ u_ws C T N, w ∈ Ts) (ty0 : Nat → FieldType) (hty : ∀ k, k < N → parseFieldDescriptor (T k).2.2.1 = some (ty0 k)) (hnm : ∀ a, a < N → ∀ b, b < N → a ≠ b → (T a).2.1 ≠ (T b).2.1) (hown : s.vm.findClass own = some m.cls) (hK : va_K D cl tys s) (hI : ww_I D cl b0 w H0 H locs) {fs : List Value} (he : w a = some (.inr (ci, fs))) (hc : cl[ci]? = some (C, T, N)) (k : Nat) (hk : k < N) (hlink : (Cond.fieldLink own index ref (T k).2.1 (T k).2.2.1).before args s = true) (hsame : ∀ x, s.fieldFound? (T k).1 (T k).2.1 (T k).2.2.1 = some x → s.fieldFound? ref (T k).2.1 (T k).2.2.1 = some x) (hfin : (T k).2.2.2 = true) (hin2 : meth.name = "<init>") (hdecl : (T k).1 = own) {ty : FieldType} {v : Value} (hd : parseFieldDescriptor (T k).2.2.1 = some ty) (hn : narrow ty v = v) (hfit : fits ty v = true) (hl : k < fs.length)
    (hdg : decode cc pc = .ok (.putfield index, 3)) (kk : ∀ (H1 : Heap) (locs1 : List Loc), ww_I D cl b0 (va_up w a (some (.inr (ci, fs.set k v)))) H0 H1 locs1 → W p l e R s m args below meth c H1 locs1 cells slots Q (F0 m (pc + 3) ls rest)) : W p l e R s m args below meth c H locs cells slots Q (F0 m pc ls (v :: .ref a :: rest)) := by
  obtain ⟨q0, h0⟩ := hI.ix he
  exact va_putF hexec hb hts hin ty0 hty hnm hown hK hI.P (hI.D _) hI.2.1 q0 h0 hc k hk hlink hsame hfin hin2 hdecl hd hn hfit hl hdg (fun H1 locs1 hP _ hS => kk H1 locs1 (hI.set h0 hP hS))
theorem ww_new (hexec : p.tables.exec = Jvm.exec) (hb : c.code = cc) {own C : String} {T : u_T} {N ci index : Nat} {Ts : List Cond} (hts : ∀ w ∈ Ts, w.before args s = true) (hin : ∀ w ∈ u_ws C T N, w ∈ Ts) (ty : Nat → FieldType) (hty : ∀ k, k < N → parseFieldDescriptor (T k).2.2.1 = some (ty k)) (hown : s.vm.findClass own = some m.cls) (hcl : (Cond.classLink own index C).before args s = true) (hinst : (Cond.instantiable C N).before args s = true) (hini : (Cond.initialized C).before args s = true)
    (hK : va_K D cl tys s) (hI : ww_I D cl b0 w H0 H locs) (hc : cl[ci]? = some (C, T, N)) {fs : List Value} (hfs : ∀ j, j < N → defaultValue (ty j) = vp_V fs j) (hcells : cells + 1 ≤ R.cells) (hslots : slots + N ≤ R.slots) (hdg : decode cc pc = .ok (.new index, 3))
    (kk : ∀ (q : Nat) (H1 : Heap), w q = none → ww_I D cl b0 (va_up w q (some (.inr (ci, fs)))) H0 H1 locs →
      W p l e R s m args below meth c H1 locs (cells + 1) (slots + N) Q (F0 m (pc + 3) ls (.ref q :: rest))) : W p l e R s m args below meth c H locs cells slots Q (F0 m pc ls rest) :=
  va_new hexec hb hts hin ty hty hown hcl hinst hini hK hI.P (hI.D _) hI.2.1 (fun q h => Nat.le_trans hI.2.2 h) hc hfs hcells hslots hdg (fun q H1 hP hD hS => kk q H1 (ww_fresh (fun _ _ he => hI.lt he) hD) (hI.push hP hD hS))
theorem ww_alen (hexec : p.tables.exec = Jvm.exec) (hb : c.code = cc) (hK : va_K D cl tys s) (hI : ww_I D cl b0 w H0 H locs) (t0 : Nat) {cA : ClassId} {x : vp_A} (ha : w a = some (.inl (cA, x))) {ty : FieldType} (ht : tys[t0]? = some (cA, ty)) {v : Int32} (hv : Int32.ofNat x.1 = v) (hdg : decode cc pc = .ok (.arraylength, 1))
    (kk : W p l e R s m args below meth c H locs cells slots Q (F0 m (pc + 1) ls (.int v :: rest))) : W p l e R s m args below meth c H locs cells slots Q (F0 m pc ls (.ref a :: rest)) :=
  va_alen hexec hb hK (ww_one (hI.1 _ _ ha).1) 0 t0 rfl ht hv hdg kk
theorem ww_iald (hexec : p.tables.exec = Jvm.exec) (hb : c.code = cc) (hK : va_K D cl tys s) (hI : ww_I D cl b0 w H0 H locs) (t0 : Nat) {cA : ClassId} {n : Nat} {f : Nat → Int32} (ha : w a = some (.inl (cA, n, .inl f))) (ht : tys[t0]? = some (cA, .int)) {i : Int32} (hin : vp_in i n) (hdg : decode cc pc = .ok (.iaload, 1))
    (kk : W p l e R s m args below meth c H locs cells slots Q (F0 m (pc + 1) ls (.int (f i.toNatClampNeg) :: rest))) : W p l e R s m args below meth c H locs cells slots Q (F0 m pc ls (.int i :: .ref a :: rest)) :=
  va_iald hexec hb hK (ww_one (hI.1 _ _ ha).1) 0 t0 rfl ht hin hdg kk
theorem ww_iast (hexec : p.tables.exec = Jvm.exec) (hb : c.code = cc) (hK : va_K D cl tys s) (hI : ww_I D cl b0 w H0 H locs) (t0 : Nat) {cA : ClassId} {n : Nat} {f : Nat → Int32} (ha : w a = some (.inl (cA, n, .inl f))) (ht : tys[t0]? = some (cA, .int)) {i : Int32} {x : Int32} (hin : vp_in i n) (hdg : decode cc pc = .ok (.iastore, 1))
    (kk : ∀ (H1 : Heap) (locs1 : List Loc), ww_I D cl b0 (va_up w a (some (.inl (cA, n, .inl (upd f i.toNatClampNeg x))))) H0 H1 locs1 → W p l e R s m args below meth c H1 locs1 cells slots Q (F0 m (pc + 1) ls rest)) : W p l e R s m args below meth c H locs cells slots Q (F0 m pc ls (.int x :: .int i :: .ref a :: rest)) := by
  obtain ⟨q0, h0⟩ := hI.ix ha
  exact va_iast hexec hb hK hI.P (hI.D _) hI.2.1 q0 t0 h0 ht hin hdg (fun H1 locs1 hP _ hS => kk H1 locs1 (hI.set h0 hP hS))
theorem ww_last (hexec : p.tables.exec = Jvm.exec) (hb : c.code = cc) (hK : va_K D cl tys s) (hI : ww_I D cl b0 w H0 H locs) (t0 : Nat) {cA : ClassId} {n : Nat} {f : Nat → Int64} (ha : w a = some (.inl (cA, n, .inr (.inl f)))) (ht : tys[t0]? = some (cA, .long)) {i : Int32} {x : Int64} (hin : vp_in i n) (hdg : decode cc pc = .ok (.lastore, 1))
    (kk : ∀ (H1 : Heap) (locs1 : List Loc), ww_I D cl b0 (va_up w a (some (.inl (cA, n, .inr (.inl (vp_updL f i.toNatClampNeg x)))))) H0 H1 locs1 → W p l e R s m args below meth c H1 locs1 cells slots Q (F0 m (pc + 1) ls rest)) : W p l e R s m args below meth c H locs cells slots Q (F0 m pc ls (.long x :: .int i :: .ref a :: rest)) := by
  obtain ⟨q0, h0⟩ := hI.ix ha
  exact va_last hexec hb hK hI.P (hI.D _) hI.2.1 q0 t0 h0 ht hin hdg (fun H1 locs1 hP _ hS => kk H1 locs1 (hI.set h0 hP hS))
theorem ww_lald (hexec : p.tables.exec = Jvm.exec) (hb : c.code = cc) (hK : va_K D cl tys s) (hI : ww_I D cl b0 w H0 H locs) (t0 : Nat) {cA : ClassId} {n : Nat} {f : Nat → Int64} (ha : w a = some (.inl (cA, n, .inr (.inl f)))) (ht : tys[t0]? = some (cA, .long)) {i : Int32} (hin : vp_in i n) (hdg : decode cc pc = .ok (.laload, 1))
    (kk : W p l e R s m args below meth c H locs cells slots Q (F0 m (pc + 1) ls (.long (f i.toNatClampNeg) :: rest))) : W p l e R s m args below meth c H locs cells slots Q (F0 m pc ls (.int i :: .ref a :: rest)) :=
  va_lald hexec hb hK (ww_one (hI.1 _ _ ha).1) 0 t0 rfl ht hin hdg kk
theorem ww_aldq (hexec : p.tables.exec = Jvm.exec) (hb : c.code = cc) (hK : va_K D cl tys s) (hI : ww_I D cl b0 w H0 H locs) (t0 : Nat) {cA : ClassId} {C : String} {n : Nat} {f : Nat → Option Nat} (ha : w a = some (.inl (cA, n, .inr (.inr (.inr (.inr f)))))) (ht : tys[t0]? = some (cA, .object C)) {i : Int32} (hin : vp_in i n) (hdg : decode cc pc = .ok (.aaload, 1))
    (kk : W p l e R s m args below meth c H locs cells slots Q (F0 m (pc + 1) ls (va_rf (f i.toNatClampNeg) :: rest))) : W p l e R s m args below meth c H locs cells slots Q (F0 m pc ls (.int i :: .ref a :: rest)) :=
  va_aldq hexec hb hK (ww_one (hI.1 _ _ ha).1) 0 t0 rfl ht hin hdg kk
theorem ww_astq (hexec : p.tables.exec = Jvm.exec) (hb : c.code = cc) (hK : va_K D cl tys s) (hI : ww_I D cl b0 w H0 H locs) (t0 : Nat) {E : String} {cA : ClassId} {n v : Nat} {f : Nat → Option Nat} (ha : w a = some (.inl (cA, n, .inr (.inr (.inr (.inr f)))))) (ht : tys[t0]? = some (cA, .object E)) (hr : va_Any E s H v) {i : Int32} (hin : vp_in i n) (hdg : decode cc pc = .ok (.aastore, 1))
    (kk : ∀ (H1 : Heap) (locs1 : List Loc), ww_I D cl b0 (va_up w a (some (.inl (cA, n, .inr (.inr (.inr (.inr (va_up f i.toNatClampNeg (some v))))))))) H0 H1 locs1 → W p l e R s m args below meth c H1 locs1 cells slots Q (F0 m (pc + 1) ls rest)) : W p l e R s m args below meth c H locs cells slots Q (F0 m pc ls (.ref v :: .int i :: .ref a :: rest)) := by
  obtain ⟨q0, h0⟩ := hI.ix ha
  exact va_astqM hexec hb hK hI.P (hI.D _) hI.2.1 q0 t0 h0 ht hr hin hdg (fun H1 locs1 hP _ hS => kk H1 locs1 (hI.set h0 hP hS))
theorem ww_astqN (hexec : p.tables.exec = Jvm.exec) (hb : c.code = cc) (hK : va_K D cl tys s) (hI : ww_I D cl b0 w H0 H locs) (t0 : Nat) {E : String} {cA : ClassId} {n : Nat} {f : Nat → Option Nat} (ha : w a = some (.inl (cA, n, .inr (.inr (.inr (.inr f)))))) (ht : tys[t0]? = some (cA, .object E)) {i : Int32} (hin : vp_in i n) (hdg : decode cc pc = .ok (.aastore, 1))
    (kk : ∀ (H1 : Heap) (locs1 : List Loc), ww_I D cl b0 (va_up w a (some (.inl (cA, n, .inr (.inr (.inr (.inr (va_up f i.toNatClampNeg none)))))))) H0 H1 locs1 → W p l e R s m args below meth c H1 locs1 cells slots Q (F0 m (pc + 1) ls rest)) : W p l e R s m args below meth c H locs cells slots Q (F0 m pc ls (.null :: .int i :: .ref a :: rest)) := by
  obtain ⟨q0, h0⟩ := hI.ix ha
  exact va_astqN hexec hb hK hI.P (hI.D _) hI.2.1 q0 t0 h0 ht hin hdg (fun H1 locs1 hP _ hS => kk H1 locs1 (hI.set h0 hP hS))
/-- the object at a, of the class ci, may lie in a row of E -/
theorem ww_any {ci : Nat} {r : vw_C} {fs : List Value} {E : String} {v : Nat} (hK : va_K D cl tys s) (hI : ww_I D cl b0 w H0 H locs) (he : w v = some (.inr (ci, fs))) (hc : cl[ci]? = some r) (hca : va_Nw (.castable r.1 E) s) : va_Any E s H v :=
  va_rAny (q0 := 0) hK (ww_one (hI.1 _ _ he).1) rfl hc (fun comp c0 h1 h2 => by
    obtain ⟨c1, t1, f1, f2, f3⟩ := Cond.castable_spec (va_Nw.use (A := #[]) rfl hca)
    cases h1.symm.trans f2
    cases h2.symm.trans f1
    exact f3)
theorem ww_newi (hexec : p.tables.exec = Jvm.exec) (hb : c.code = cc) (harr : (Cond.arrayClass (newarray.typeOf .int)).before args s = true) (hK : va_K D cl tys s) (hI : ww_I D cl b0 w H0 H locs) (t0 : Nat) {cA : ClassId} (ht : tys[t0]? = some (cA, .int))
    {n : Int32} {N : Nat} (hn : ¬ n < 0) (hN : n.toNatClampNeg = N) (hbytes : N * 4 ≤ 536870912) (hcells : cells + 1 ≤ R.cells) (hslots : slots + N ≤ R.slots) (hdg : decode cc pc = .ok (.newarray .int, 2))
    (kk : ∀ (q : Nat) (H1 : Heap), w q = none → ww_I D cl b0 (va_up w q (some (.inl (cA, N, .inl (fun _ => 0))))) H0 H1 locs →
      W p l e R s m args below meth c H1 locs (cells + 1) (slots + N) Q (F0 m (pc + 2) ls (.ref q :: rest))) : W p l e R s m args below meth c H locs cells slots Q (F0 m pc ls (.int n :: rest)) :=
  va_newa (ty := .int) (a0 := (N, .inl (fun _ => 0))) hexec hb harr rfl hK hI.P (hI.D _) hI.2.1 (fun q h => Nat.le_trans hI.2.2 h) (fun _ => rfl) hn hN hbytes hcells hslots hdg (fun q cB H1 hK2 hP hD hS => by
    have h1 : va_RA s cA .int := (hK.2 t0 _ ht).2
    have h2 : va_RA s cB .int := (hK2.2 tys.length (cB, .int) (by rw [List.getElem?_append_right (Nat.le_refl _), Nat.sub_self]; rfl)).2
    have h3 : cB = cA := Option.some.inj (Eq.trans (Eq.symm h2) h1)
    subst h3
    exact kk q H1 (ww_fresh (fun _ _ he => hI.lt he) hD) (hI.push hP hD hS))
theorem ww_newl (hexec : p.tables.exec = Jvm.exec) (hb : c.code = cc) (harr : (Cond.arrayClass (newarray.typeOf .long)).before args s = true) (hK : va_K D cl tys s) (hI : ww_I D cl b0 w H0 H locs) (t0 : Nat) {cA : ClassId} (ht : tys[t0]? = some (cA, .long))
    {n : Int32} {N : Nat} (hn : ¬ n < 0) (hN : n.toNatClampNeg = N) (hbytes : N * 8 ≤ 536870912) (hcells : cells + 1 ≤ R.cells) (hslots : slots + N ≤ R.slots) (hdg : decode cc pc = .ok (.newarray .long, 2))
    (kk : ∀ (q : Nat) (H1 : Heap), w q = none → ww_I D cl b0 (va_up w q (some (.inl (cA, N, .inr (.inl (fun _ => 0)))))) H0 H1 locs →
      W p l e R s m args below meth c H1 locs (cells + 1) (slots + N) Q (F0 m (pc + 2) ls (.ref q :: rest))) : W p l e R s m args below meth c H locs cells slots Q (F0 m pc ls (.int n :: rest)) :=
  va_newa (ty := .long) (a0 := (N, .inr (.inl (fun _ => 0)))) hexec hb harr rfl hK hI.P (hI.D _) hI.2.1 (fun q h => Nat.le_trans hI.2.2 h) (fun _ => rfl) hn hN hbytes hcells hslots hdg (fun q cB H1 hK2 hP hD hS => by
    have h1 : va_RA s cA .long := (hK.2 t0 _ ht).2
    have h2 : va_RA s cB .long := (hK2.2 tys.length (cB, .long) (by rw [List.getElem?_append_right (Nat.le_refl _), Nat.sub_self]; rfl)).2
    have h3 : cB = cA := Option.some.inj (Eq.trans (Eq.symm h2) h1)
    subst h3
    exact kk q H1 (ww_fresh (fun _ _ he => hI.lt he) hD) (hI.push hP hD hS))
theorem ww_newq (hexec : p.tables.exec = Jvm.exec) (hb : c.code = cc) {own C : String} {index : Nat} (hown : s.vm.findClass own = some m.cls) (hclink : (Cond.classLink own index C).before args s = true) (hover : va_AO C s) (hK : va_K D cl tys s) (hI : ww_I D cl b0 w H0 H locs) (t0 : Nat) {cA : ClassId} (ht : tys[t0]? = some (cA, .object C))
    {n : Int32} {N : Nat} (hn : ¬ n < 0) (hN : n.toNatClampNeg = N) (hbytes : N * 4 ≤ 536870912) (hcells : cells + 1 ≤ R.cells) (hslots : slots + N ≤ R.slots) (hdg : decode cc pc = .ok (.anewarray index, 3))
    (kk : ∀ (q : Nat) (H1 : Heap), w q = none → ww_I D cl b0 (va_up w q (some (.inl (cA, N, .inr (.inr (.inr (.inr (fun _ => none)))))))) H0 H1 locs →
      W p l e R s m args below meth c H1 locs (cells + 1) (slots + N) Q (F0 m (pc + 3) ls (.ref q :: rest))) : W p l e R s m args below meth c H locs cells slots Q (F0 m pc ls (.int n :: rest)) :=
  va_newq hexec hb hown hclink hover hK hI.P (hI.D _) hI.2.1 (fun q h => Nat.le_trans hI.2.2 h) hn hN hbytes hcells hslots hdg (fun q cB H1 hK2 hP hD hS => by
    obtain ⟨_, _, _, _, _, h1⟩ : va_RA s cA (.object C) := (hK.2 t0 _ ht).2
    obtain ⟨_, _, _, _, _, h2⟩ : va_RA s cB (.object C) := (hK2.2 tys.length (cB, .object C) (by rw [List.getElem?_append_right (Nat.le_refl _), Nat.sub_self]; rfl)).2
    have h3 : cB = cA := Option.some.inj (Eq.trans (Eq.symm h2) h1)
    subst h3
    exact kk q H1 (ww_fresh (fun _ _ he => hI.lt he) hD) (hI.push hP hD hS))
theorem ww_copyi (hexec : p.tables.exec = Jvm.exec) (hb : c.code = cc) (hml : c.maxLocals = ls.size) {own : String} {index : Nat} (hown : s.vm.findClass own = some m.cls) (hlink : (Cond.methodLink own index arraycopyName).before args s = true) (hnat : (Cond.native arraycopyName).before args s = true) (hstat : (Cond.static arraycopyName).before args s = true) (hini : (Cond.initialized "java/lang/System").before args s = true)
    (hK : va_K D cl tys s) (hI : ww_I D cl b0 w H0 H locs) (t0 : Nat) {a0 : Nat} {c0 : ClassId} {n0 n1 : Nat} {f g : Nat → Int32} (ha0 : w a0 = some (.inl (c0, n0, .inl f))) (ha1 : w a = some (.inl (c0, n1, .inl g))) (ht0 : tys[t0]? = some (c0, .int))
    {sp dp n : Int32} (h1 : ¬ sp < 0) (h2 : ¬ dp < 0) (h3 : ¬ n < 0) (h4 : sp.toNatClampNeg + n.toNatClampNeg ≤ n0) (h5 : dp.toNatClampNeg + n.toNatClampNeg ≤ n1)
    (hframes : 1 ≤ R.frames) (hlocals : (rest.map fun v => v.category).sum + (nativeFrameWords "java/lang/System" "arraycopy" 5 + 11) ≤ R.locals) (hdg : decode cc pc = .ok (.invokestatic index, 3))
    (kk : ∀ (H1 : Heap) (locs1 : List Loc), ww_I D cl b0 (va_up w a (some (.inl (c0, n1, .inl (va_cpy f g sp.toNatClampNeg dp.toNatClampNeg n.toNatClampNeg))))) H0 H1 locs1 → W p l e R s m args below meth c H1 locs1 cells slots Q (F0 m (pc + 3) ls rest)) : W p l e R s m args below meth c H locs cells slots Q (F0 m pc ls (.int n :: .int dp :: .ref a :: .int sp :: .ref a0 :: rest)) := by
  obtain ⟨q0, h00⟩ := hI.ix ha0
  obtain ⟨q1, h01⟩ := hI.ix ha1
  exact va_copyi hexec hb hml hown hlink hnat hstat hini hK hI.P (hI.D _) hI.2.1 q0 q1 t0 t0 h00 h01 ht0 ht0 rfl h1 h2 h3 h4 h5 (fun _ _ => rfl) hframes hlocals hdg (fun H1 locs1 hP _ hS => kk H1 locs1 (hI.set h01 hP hS))
end WW2
/-! contracts: the world at the start and at the end -/
def ww_A (D : va_G) (cl : List vw_C) (tys : List (ClassId × FieldType)) (b0 : Nat) (w : ww_W) (U : State) : Prop :=
  (∀ (a : Nat) (e : va_E), w a = some e → va_at D cl (a, e) U.heap ∧ b0 ≤ a) ∧ b0 ≤ U.heap.size ∧ va_K D cl tys U
/-- words that stay as the tables warm, though the callee's own list doesn't take them: nest mates, casts -/
def ww_N (nst : List Cond) (U : State) : Prop := ∀ w ∈ nst, va_Nw w U
def ww_st (nst : List Cond) : Prop := ∀ w ∈ nst, (∀ s U : State, s.vm = U.vm → va_Nw w s → va_Nw w U) ∧ ∀ s U : State, s.WarmedH U.vm → va_Nw w s → va_Nw w U
def ww_P (nst : List Cond) (D : va_G) (cl : List vw_C) (tys : List (ClassId × FieldType)) (b0 : Nat) (w : ww_W) (sz tt : Nat) (U : State) : Prop := ww_A D cl tys b0 w U ∧ U.heap.size = sz ∧ ww_t U.heap = tt ∧ ww_N nst U
/-- behind a method: the world u.1, at most u.2.1 new cells, of u.2.2 slots -/
def ww_B (D : va_G) (cl : List vw_C) (tys : List (ClassId × FieldType)) (b0 sz tt : Nat) (u : ww_W × Nat × Nat) (U : State) : Prop := ww_A D cl tys b0 u.1 U ∧ U.heap.size ≤ sz + u.2.1 ∧ ww_t U.heap ≤ tt + u.2.2
def ww_F (b0 : Nat) : Nat → Prop := fun q => b0 ≤ q
theorem ww_A.call {D : va_G} {cl : List vw_C} {tys : List (ClassId × FieldType)} {b0 : Nat} {w : ww_W} {U : State} (h : ww_A D cl tys b0 w U) (g : JFrame) (mk : MethodId) (a : Array Value) : ww_A D cl tys b0 w (U.calling g mk a) :=
  ⟨h.1, h.2.1, va_K.moved (u := U) (U := U.calling g mk a) (Vm.Alike.refl U.vm) h.2.2⟩
theorem ww_blind {nst : List Cond} (hst : ww_st nst) {D : va_G} {cl : List vw_C} {tys : List (ClassId × FieldType)} {b0 sz tt : Nat} {w : ww_W} {As : List Value} : FrameBlind (va_Pc As (ww_P nst D cl tys b0 w sz tt)) := by
  intro a U g mk q
  obtain ⟨q0, q1, q2, q3, q4⟩ := q
  exact ⟨q0, q1.call g mk a, q2, q3, fun w hw => (hst w hw).1 U (U.calling g mk a) rfl (q4 w hw)⟩
section WW3
variable {p : Program} {l : Launch} {e : Env} {R : Room} {s : State} {m : MethodId} {args : Array Value} {below : List Frame} {meth : Method} {c : Code} {H : Heap} {locs : List Loc} {cells slots : Nat} {Q : State → Prop}
variable {cc : ByteArray} {pc : Nat} {ls : Array Slot} {rest st0 : List Value} {D : va_G} {cl : List vw_C} {b0 : Nat} {tys : List (ClassId × FieldType)} {w : ww_W} {H0 : Heap} {a : Array Value} {mc ms : Nat} {b : Addr} {As : List Value}
theorem ww_here {nst : List Cond} (hst : ww_st nst) (hN : ww_N nst s) (hK : va_K D cl tys s) (hI : ww_I D cl b0 w H0 H locs) (U : State) (hU : U.heap = H) (hW : s.WarmedH U.vm) : ww_P nst D cl tys b0 w H.size (ww_t H) U :=
  ⟨⟨by rw [hU]; exact hI.1, by rw [hU]; exact Nat.le_trans hI.2.2 hI.2.1.1, va_K.moved hW.alike hK⟩, by rw [hU], by rw [hU], fun w hw => (hst w hw).2 s U hW (hN w hw)⟩
theorem ww_preS {nst : List Cond} (hst : ww_st nst) (hN : ww_N nst s) (hK : va_K D cl tys s) (hI : ww_I D cl b0 w H0 H locs) : PreS s H (va_Pc As (ww_P nst D cl tys b0 w H.size (ww_t H))) As :=
  ⟨ww_blind hst, fun U hU hW => ⟨rfl, ww_here hst hN hK hI U hU hW⟩⟩
theorem ww_preV {nst : List Cond} (hst : ww_st nst) (hN : ww_N nst s) {ci : Nat} {q : vw_C} {fs : List Value} (hK : va_K D cl tys s) (hI : ww_I D cl b0 w H0 H locs) (hc : cl[ci]? = some q) (he : w b = some (.inr (ci, fs))) : PreV s H q.1 b (va_Pc (.ref b :: As) (ww_P nst D cl tys b0 w H.size (ww_t H))) As :=
  ⟨ww_blind hst, ww_recv hK hI hc he, fun U hU hW => ⟨rfl, ww_here hst hN hK hI U hU hW⟩⟩
theorem ww_back {u : ww_W × Nat × Nat} {t : State} {H1 : Heap} {locs1 : List Loc} (hI : ww_I D cl b0 w H0 H locs) (ht : t.heap = H1) (hB : ww_B D cl tys b0 H.size (ww_t H) u t) (hS : va_S (fun q => b0 ≤ q) H0 H1 locs1) : ww_I D cl b0 u.1 H0 H1 locs1 := by
  subst ht
  exact ⟨hB.1.1, hS, hI.2.2⟩
theorem ww_calli {post : Int32 → ww_W × Nat × Nat → Prop} (hI : ww_I D cl b0 w H0 H locs) (hr : va_Run p l e R s m args below meth c H locs cells slots mc ms (F0 m pc ls st0) rest (va_Qi post (ww_B D cl tys b0 H.size (ww_t H)) (ww_F b0) a) (ww_F b0))
    (kk : ∀ (r : Int32) (u : ww_W × Nat × Nat) (H1 : Heap) (locs1 : List Loc), post r u → H1.size ≤ H.size + u.2.1 → ww_t H1 ≤ ww_t H + u.2.2 → ww_I D cl b0 u.1 H0 H1 locs1 → W p l e R s m args below meth c H1 locs1 (cells + mc) (slots + ms) Q (F0 m (pc + 3) ls (.int r :: rest))) : W p l e R s m args below meth c H locs cells slots Q (F0 m pc ls st0) :=
  va_calli hr hI.2.1 (fun _ _ h => h) (fun _ h => h) (fun r u t H1 locs1 ht _ hp hB _ _ hS => kk r u H1 locs1 hp (by rw [← ht]; exact hB.2.1) (by rw [← ht]; exact hB.2.2) (ww_back hI ht hB hS))
theorem ww_callv {post : ww_W × Nat × Nat → Prop} (hI : ww_I D cl b0 w H0 H locs) (hr : va_Run p l e R s m args below meth c H locs cells slots mc ms (F0 m pc ls st0) rest (va_Qv post (ww_B D cl tys b0 H.size (ww_t H)) (ww_F b0) a) (ww_F b0))
    (kk : ∀ (u : ww_W × Nat × Nat) (H1 : Heap) (locs1 : List Loc), post u → H1.size ≤ H.size + u.2.1 → ww_t H1 ≤ ww_t H + u.2.2 → ww_I D cl b0 u.1 H0 H1 locs1 → W p l e R s m args below meth c H1 locs1 (cells + mc) (slots + ms) Q (F0 m (pc + 3) ls rest)) : W p l e R s m args below meth c H locs cells slots Q (F0 m pc ls st0) :=
  va_callv hr hI.2.1 (fun _ _ h => h) (fun _ h => h) (fun u t H1 locs1 ht _ hp hB _ _ hS => kk u H1 locs1 hp (by rw [← ht]; exact hB.2.1) (by rw [← ht]; exact hB.2.2) (ww_back hI ht hB hS))
theorem ww_callq {post : Option Nat → ww_W × Nat × Nat → Prop} (hI : ww_I D cl b0 w H0 H locs) (hr : va_Run p l e R s m args below meth c H locs cells slots mc ms (F0 m pc ls st0) rest (va_Qq post (ww_B D cl tys b0 H.size (ww_t H)) (ww_F b0) a) (ww_F b0))
    (kk : ∀ (r : Option Nat) (u : ww_W × Nat × Nat) (H1 : Heap) (locs1 : List Loc), post r u → H1.size ≤ H.size + u.2.1 → ww_t H1 ≤ ww_t H + u.2.2 → ww_I D cl b0 u.1 H0 H1 locs1 → W p l e R s m args below meth c H1 locs1 (cells + mc) (slots + ms) Q (F0 m (pc + 3) ls (va_rf r :: rest))) : W p l e R s m args below meth c H locs cells slots Q (F0 m pc ls st0) :=
  va_callq hr hI.2.1 (fun _ _ h => h) (fun _ h => h) (fun r u t H1 locs1 ht _ hp hB _ _ hS => kk r u H1 locs1 hp (by rw [← ht]; exact hB.2.1) (by rw [← ht]; exact hB.2.2) (ww_back hI ht hB hS))
end WW3
section WW4
variable {p : Program} {l : Launch} {e : Env} {R : Room} {s : State} {m : MethodId} {args : Array Value} {below : List Frame} {meth : Method} {c : Code} {H : Heap} {locs : List Loc} {cells slots : Nat}
variable {cc : ByteArray} {pc : Nat} {ls : Array Slot} {D : va_G} {cl : List vw_C} {b0 : Nat} {tys : List (ClassId × FieldType)} {w : ww_W} {mc ms : Nat}
theorem ww_end (hK : va_K D cl tys s) (hI : ww_I D cl b0 w s.heap H locs) (k1 : H.size ≤ s.heap.size + cells) (k2 : ww_t H ≤ ww_t s.heap + slots) {t : State} (ht : t.heap = H) (hW : s.WarmedH t.vm) : ww_B D cl tys b0 s.heap.size (ww_t s.heap) (w, cells, slots) t :=
  ⟨⟨by rw [ht]; exact hI.1, by rw [ht]; exact Nat.le_trans hI.2.2 hI.2.1.1, va_K.moved hW.alike hK⟩, by rw [ht]; exact k1, by rw [ht]; exact k2⟩
theorem ww_reti {post : Int32 → ww_W × Nat × Nat → Prop} (hexec : p.tables.exec = Jvm.exec) (hb : c.code = cc) (hr : meth.sig.returnType = some .int) (hlocks : meth.locks = false) (hK : va_K D cl tys s) (hI : ww_I D cl b0 w s.heap H locs) {v : Int32} (hp : post v (w, cells, slots)) (h1 : cells ≤ mc) (h2 : slots ≤ ms) (hdg : decode cc pc = .ok (.ireturn, 1)) :
    W p l e R s m args below meth c H locs cells slots (MQ below (va_Qi post (ww_B D cl tys b0 s.heap.size (ww_t s.heap)) (ww_F b0)) args s mc ms (ww_F b0)) (F0 m pc ls [.int v]) := by
  refine ww_know fun k1 k2 => ?_
  refine W.widen h1 h2 ?_
  exact W.iret hexec hb hr (fun t ht hW => ⟨⟨v, (w, cells, slots), rfl, hp, ww_end hK hI k1 k2 ht hW⟩, hI.2.1.F ht⟩) hI.2.1.2.2 hdg hlocks
theorem ww_retz {post : Int32 → ww_W × Nat × Nat → Prop} (hexec : p.tables.exec = Jvm.exec) (hb : c.code = cc) (hr : meth.sig.returnType = some .boolean) (hlocks : meth.locks = false) (hK : va_K D cl tys s) (hI : ww_I D cl b0 w s.heap H locs) {v : Int32} (hn : narrow .boolean (.int v) = .int v) (hp : post v (w, cells, slots)) (h1 : cells ≤ mc) (h2 : slots ≤ ms) (hdg : decode cc pc = .ok (.ireturn, 1)) :
    W p l e R s m args below meth c H locs cells slots (MQ below (va_Qi post (ww_B D cl tys b0 s.heap.size (ww_t s.heap)) (ww_F b0)) args s mc ms (ww_F b0)) (F0 m pc ls [.int v]) := by
  refine ww_know fun k1 k2 => ?_
  refine W.widen h1 h2 ?_
  exact W.zret hexec hb hr hn (fun t ht hW => ⟨⟨v, (w, cells, slots), rfl, hp, ww_end hK hI k1 k2 ht hW⟩, hI.2.1.F ht⟩) hI.2.1.2.2 hdg hlocks
theorem ww_retv {post : ww_W × Nat × Nat → Prop} (hexec : p.tables.exec = Jvm.exec) (hb : c.code = cc) (hr : meth.sig.returnType = none) (hlocks : meth.locks = false) (hK : va_K D cl tys s) (hI : ww_I D cl b0 w s.heap H locs) (hp : post (w, cells, slots)) (h1 : cells ≤ mc) (h2 : slots ≤ ms) (hdg : decode cc pc = .ok (.return_, 1)) :
    W p l e R s m args below meth c H locs cells slots (MQ below (va_Qv post (ww_B D cl tys b0 s.heap.size (ww_t s.heap)) (ww_F b0)) args s mc ms (ww_F b0)) (F0 m pc ls []) := by
  refine ww_know fun k1 k2 => ?_
  refine W.widen h1 h2 ?_
  exact W.vret hexec hb hr (fun t ht hW => ⟨⟨(w, cells, slots), rfl, hp, ww_end hK hI k1 k2 ht hW⟩, hI.2.1.F ht⟩) hI.2.1.2.2 hdg hlocks
theorem ww_retq {post : Option Nat → ww_W × Nat × Nat → Prop} {rt : FieldType} (hexec : p.tables.exec = Jvm.exec) (hb : c.code = cc) (hr : meth.sig.returnType = some rt) (hrt : (∃ n, rt = .object n) ∨ ∃ t, rt = .array t) (hlocks : meth.locks = false) (hK : va_K D cl tys s) (hI : ww_I D cl b0 w s.heap H locs) {r : Option Nat} {v : Value} (hv : v = va_rf r) (hp : post r (w, cells, slots)) (h1 : cells ≤ mc) (h2 : slots ≤ ms) (hdg : decode cc pc = .ok (.areturn, 1)) :
    W p l e R s m args below meth c H locs cells slots (MQ below (va_Qq post (ww_B D cl tys b0 s.heap.size (ww_t s.heap)) (ww_F b0)) args s mc ms (ww_F b0)) (F0 m pc ls [v]) := by
  subst hv
  refine ww_know fun k1 k2 => ?_
  refine W.widen h1 h2 ?_
  exact W.aret hexec hb hr hrt (va_rf_or r) (fun t ht hW => ⟨⟨r, (w, cells, slots), rfl, hp, ww_end hK hI k1 k2 ht hW⟩, hI.2.1.F ht⟩) hI.2.1.2.2 hdg hlocks
end WW4
/-- a contract out of a walk of the body -/
theorem ww_met {nst : List Cond} {l : Launch} {y : MethodName} {cc : ByteArray} {maxL : Nat} {ret : Option FieldType} {big : List Cond} {rm : Room} {As : List Value} {Qc : Array Value → State → Outcome → State → Prop} {mc ms : Nat} {D : va_G} {cl : List vw_C} {tys : List (ClassId × FieldType)} {b0 sz tt : Nat} {w : ww_W}
    (hy : plainFor y = true) (hL : (lg_sl As).length ≤ maxL)
    (body : ∀ (p : Program) (e : Env) (s : State) (m : MethodId) (below : List Frame) (meth : Method) (c : Code), p.tables.exec = Jvm.exec → c.code = cc → c.maxLocals = maxL → meth.sig.returnType = ret → (∀ w ∈ big, w.before As.toArray s = true) → s.vm.findClass y.cls = some m.cls → meth.locks = false → meth.name = y.name → va_K D cl tys s → ww_I D cl b0 w s.heap s.heap [] → s.heap.size = sz → ww_t s.heap = tt → ww_N nst s →
      ∀ ls : Array Slot, lv_has ls maxL (lv_args 0 As) → W p l e rm s m As.toArray below meth c s.heap [] 0 0 (MQ below Qc As.toArray s mc ms (ww_F b0)) (F0 m 0 ls [])) :
    Met l y (.code y cc maxL ret :: big) rm (va_Pc As (ww_P nst D cl tys b0 w sz tt)) Qc mc ms (ww_F b0) := by
  refine va_MetF (cc := cc) (maxL := maxL) (ret := ret) hy rfl ?_
  intro p e s m args below meth c s₁ B hml hv
  obtain ⟨rfl, ⟨hA1, hA2, hK⟩, hsz, htt, hN⟩ := hv
  have hts := atoms_spec (ws := .code y cc maxL ret :: big) B.pre
  have hown : s.vm.findClass y.cls = some m.cls := findClass_of_methodNamed B.named
  have hl := lv_entry As (n := maxL) hL
  rw [lg_entry_eq]
  exact body p e s m below meth c B.exec B.bytes hml B.returns (fun w h => hts w (List.mem_cons_of_mem _ h)) hown B.notSynchronized (name_of_methodNamed B.named B.method).1 hK ⟨hA1, va_S.rf, hA2⟩ hsz htt hN _ hl
