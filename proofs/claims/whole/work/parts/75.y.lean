/-! methods that may throw, or catch: a thrown object is told by its class's number; what was taken before a throw counts as the callee's worst -/
def yex : List String := ["java/lang/IllegalArgumentException", "java/lang/IllegalStateException", "java/util/NoSuchElementException", "java/lang/IndexOutOfBoundsException", "java/lang/UnsupportedOperationException", "java/lang/ArithmeticException"]
def yX (D : va_G) (cl : List vw_C) (tys : List (ClassId × FieldType)) (b0 : Nat) (Q : zQ) : String → State → State → Prop := fun E st t => ∃ (x : Nat) (u : ww_W), yex[x]? = some E ∧ Q (.inr x) u 0 0 ∧ ww_A D cl tys b0 u t ∧ va_F (ww_F b0) st t
/-- what is said of the start and stays: of the tables, of the heap under b0 -/
def yKp (b0 : Nat) (X : State → Prop) : Prop := ∀ s U : State, X s → s.WarmedH U.vm → b0 ≤ s.heap.size → (∀ q : Nat, q < b0 → U.heap[q]? = s.heap[q]?) → X U
def yC (mt : zMt) (eh : Nat → List (Nat × Nat × Nat × Nat)) (big nst : List Cond) (D : va_G) (cl : List vw_C) (tys : List (ClassId × FieldType)) (X : State → Prop) (d K N μ : Nat) (p : Program) (R : Room) (s : State) (m : MethodId) (args : Array Value) (meth : Method) (c : Code) : Prop :=
  zC mt big nst D cl tys d K N μ p R s m args meth c ∧ X s ∧ c.exceptionTable.toList = tableOf (eh μ)
def yM (l : Launch) (mt : zMt) (eh : Nat → List (Nat × Nat × Nat × Nat)) (big nst : List Cond) (D : va_G) (cl : List vw_C) (tys : List (ClassId × FieldType)) (b0 : Nat) (X : State → Prop) : zP := fun d K N μ pc L st w k n Q =>
  ∀ (p : Program) (e : Env) (R : Room) (s : State) (m : MethodId) (args : Array Value) (below : List Frame) (meth : Method) (c : Code), yC mt eh big nst D cl tys X d K N μ p R s m args meth c →
    ∀ (H : Heap) (locs : List Loc) (ls : Array Slot), ww_I D cl b0 w s.heap H locs → zH ls (mt μ).2.2.1 L → W p l e R s m args below meth c H locs k n (vx_MQ below (zQc D cl tys b0 Q) (yX D cl tys b0 Q) args s K N (ww_F b0)) (F0 m pc ls st)
def yS (l : Launch) (mt : zMt) (eh : Nat → List (Nat × Nat × Nat × Nat)) (big nst : List Cond) (D : va_G) (cl : List vw_C) (tys : List (ClassId × FieldType)) (b0 : Nat) (X : State → Prop) (μ pc : Nat) (tr : zP → zP) : Prop :=
  ∀ (d K N : Nat) (L : zV) (st : List Value) (w : ww_W) (k n : Nat) (Q : zQ), tr (yM l mt eh big nst D cl tys b0 X) d K N μ pc L st w k n Q → yM l mt eh big nst D cl tys b0 X d K N μ pc L st w k n Q
theorem yR_sound {T : Nat → Nat → Option (zP → zP)} {l : Launch} {mt : zMt} {eh : Nat → List (Nat × Nat × Nat × Nat)} {big nst : List Cond} {D : va_G} {cl : List vw_C} {tys : List (ClassId × FieldType)} {b0 : Nat} {X : State → Prop} (hS : ∀ (μ pc : Nat) (tr : zP → zP), T μ pc = some tr → yS l mt eh big nst D cl tys b0 X μ pc tr)
    {d K N μ pc : Nat} {L : zV} {st : List Value} {w : ww_W} {k n : Nat} {Q : zQ} (h : zR T d K N μ pc L st w k n Q) : yM l mt eh big nst D cl tys b0 X d K N μ pc L st w k n Q :=
  h (yM l mt eh big nst D cl tys b0 X) (fun d K N μ pc L st w k n Q tr ht hx => hS μ pc tr ht d K N L st w k n Q hx)
/-! a callee's start -/
def yP (nst : List Cond) (D : va_G) (cl : List vw_C) (tys : List (ClassId × FieldType)) (b0 : Nat) (X : State → Prop) (w : ww_W) (sz tt : Nat) (U : State) : Prop := ww_P nst D cl tys b0 w sz tt U ∧ X U
abbrev ywsW (mt : zMt) (eh : Nat → List (Nat × Nat × Nat × Nat)) (big : List Cond) (μ : Nat) : List Cond := .codeWith (mt μ).1 (mt μ).2.1 (mt μ).2.2.1 (mt μ).2.2.2 (eh μ) :: big
section YK
variable {l : Launch} {mt : zMt} {eh : Nat → List (Nat × Nat × Nat × Nat)} {big nst : List Cond} {D : va_G} {cl : List vw_C} {tys : List (ClassId × FieldType)} {X : State → Prop} {b0 : Nat}
theorem y_blind (hst : ww_st nst) (hX : yKp b0 X) {sz tt : Nat} {w : ww_W} {As : List Value} : FrameBlind (va_Pc As (yP nst D cl tys b0 X w sz tt)) := by
  intro a U g mk q
  obtain ⟨q0, q1, q2⟩ := q
  obtain ⟨r0, r1⟩ := ww_blind (D := D) (cl := cl) (tys := tys) (b0 := b0) (sz := sz) (tt := tt) (w := w) (As := As) hst a U g mk ⟨q0, q1⟩
  exact ⟨r0, r1, hX U (U.calling g mk a) q2 (State.WarmedH.refl U) q1.1.2.1 (fun _ _ => rfl)⟩
theorem y_here {s : State} {H : Heap} {locs : List Loc} {w : ww_W} (hst : ww_st nst) (hX : yKp b0 X) (hN : ww_N nst s) (hK : va_K D cl tys s) (hx : X s) (hI : ww_I D cl b0 w s.heap H locs) (U : State) (hU : U.heap = H) (hW : s.WarmedH U.vm) : yP nst D cl tys b0 X w H.size (ww_t H) U :=
  ⟨ww_here hst hN hK hI U hU hW, hX s U hx hW hI.2.2 (fun q hq => by rw [hU]; exact hI.2.1.2.1 q (Nat.lt_of_lt_of_le hq hI.2.2) (Nat.not_le.mpr hq))⟩
theorem y_preS {s : State} {H : Heap} {locs : List Loc} {w : ww_W} {As : List Value} (hst : ww_st nst) (hX : yKp b0 X) (hN : ww_N nst s) (hK : va_K D cl tys s) (hx : X s) (hI : ww_I D cl b0 w s.heap H locs) : PreS s H (va_Pc As (yP nst D cl tys b0 X w H.size (ww_t H))) As :=
  ⟨y_blind hst hX, fun U hU hW => ⟨rfl, y_here hst hX hN hK hx hI U hU hW⟩⟩
theorem y_preV {s : State} {H : Heap} {locs : List Loc} {w : ww_W} {As : List Value} {b ci : Nat} {q : vw_C} {fs : List Value} (hst : ww_st nst) (hX : yKp b0 X) (hN : ww_N nst s) (hK : va_K D cl tys s) (hx : X s) (hI : ww_I D cl b0 w s.heap H locs) (hc : cl[ci]? = some q) (he : w b = some (.inr (ci, fs))) : PreV s H q.1 b (va_Pc (.ref b :: As) (yP nst D cl tys b0 X w H.size (ww_t H))) As :=
  ⟨y_blind hst hX, ww_recv hK hI hc he, fun U hU hW => ⟨rfl, y_here hst hX hN hK hx hI U hU hW⟩⟩
theorem yM.met {d K N μ : Nat} {As : List Value} {w : ww_W} {Q : zQ} {sz tt : Nat} (hy : plainName (mt μ).1.cls = true) (he : eh μ = []) (hn : (lg_sl As).length ≤ (mt μ).2.2.1) (hM : yM l mt eh big nst D cl tys b0 X d K N μ 0 (zargs (mt μ).2.2.1 As) [] w 0 0 Q) :
    vx_Met l (mt μ).1 (zws mt big μ) (zrm d K N) (va_Pc As (yP nst D cl tys b0 X w sz tt)) (zQc D cl tys b0 Q) (yX D cl tys b0 Q) K N (ww_F b0) := by
  refine vx_ofW (cc := (mt μ).2.1) (maxL := (mt μ).2.2.1) (ret := (mt μ).2.2.2) hy rfl ?_
  intro p e s m args below meth c s₁ B hml ht hv
  obtain ⟨rfl, ⟨⟨hA1, hA2, hK⟩, hsz, htt, hN⟩, hX⟩ := hv
  have hts := atoms_spec (ws := zws mt big μ) B.pre
  have hown : s.vm.findClass (mt μ).1.cls = some m.cls := findClass_of_methodNamed B.named
  have hl := lv_entry As (n := (mt μ).2.2.1) hn
  rw [lg_entry_eq]
  exact hM p e (zrm d K N) s m As.toArray below meth c ⟨⟨B.exec, B.bytes, hml, B.returns, fun w h => hts w (List.mem_cons_of_mem _ h), hown, B.notSynchronized, (name_of_methodNamed B.named B.method).1, hK, Nat.le_refl _, Nat.le_refl _, Nat.le_refl _, Nat.le_refl _, hN⟩, hX, by rw [he]; exact List.eq_nil_iff_forall_not_mem.mpr (fun x hx => ht x hx)⟩ s.heap [] _ ⟨hA1, va_S.rf, hA2⟩ (zargs_has hn hl)
theorem yM.metW {d K N μ : Nat} {As : List Value} {w : ww_W} {Q : zQ} {sz tt : Nat} (hy : plainName (mt μ).1.cls = true) (hn : (lg_sl As).length ≤ (mt μ).2.2.1) (hM : yM l mt eh big nst D cl tys b0 X d K N μ 0 (zargs (mt μ).2.2.1 As) [] w 0 0 Q) :
    vx_Met l (mt μ).1 (ywsW mt eh big μ) (zrm d K N) (va_Pc As (yP nst D cl tys b0 X w sz tt)) (zQc D cl tys b0 Q) (yX D cl tys b0 Q) K N (ww_F b0) := by
  refine vx_ofWH (cc := (mt μ).2.1) (maxL := (mt μ).2.2.1) (ret := (mt μ).2.2.2) (hh := eh μ) hy rfl ?_
  intro p e s m args below meth c s₁ B hml hv
  obtain ⟨rfl, ⟨⟨hA1, hA2, hK⟩, hsz, htt, hN⟩, hX⟩ := hv
  have hts := atoms_spec (ws := ywsW mt eh big μ) B.pre
  have hown : s.vm.findClass (mt μ).1.cls = some m.cls := findClass_of_methodNamed B.named
  have hl := lv_entry As (n := (mt μ).2.2.1) hn
  rw [lg_entry_eq]
  exact hM p e (zrm d K N) s m As.toArray below meth c ⟨⟨B.exec, B.bytes, hml, B.returns, fun w h => hts w (List.mem_cons_of_mem _ h), hown, B.notSynchronized, (name_of_methodNamed B.named B.method).1, hK, Nat.le_refl _, Nat.le_refl _, Nat.le_refl _, Nat.le_refl _, hN⟩, hX, vx_table (x := (mt μ).1) B (hts _ List.mem_cons_self)⟩ s.heap [] _ ⟨hA1, va_S.rf, hA2⟩ (zargs_has hn hl)
theorem y_call {p : Program} {e : Env} {R : Room} {s : State} {m : MethodId} {args : Array Value} {below : List Frame} {meth : Method} {c : Code} {H : Heap} {locs : List Loc} {k n K' N' : Nat} {Qf : State → Prop} {pc : Nat} {ls : Array Slot} {st0 rest : List Value} {a : Array Value} {Q' : zQ} {w : ww_W} (hI : ww_I D cl b0 w s.heap H locs)
    (hr : vx_Run p l e R s m args below meth c H locs k n K' N' (F0 m pc ls st0) rest (zQc D cl tys b0 Q' a) (yX D cl tys b0 Q') (ww_F b0))
    (kk : ∀ (v : Option Value) (w' : ww_W) (k' n' : Nat) (H1 : Heap) (locs1 : List Loc), Q' (.inl v) w' k' n' → ww_I D cl b0 w' s.heap H1 locs1 → W p l e R s m args below meth c H1 locs1 (k + k') (n + n') Qf (F0 m (pc + 3) ls (v.toList ++ rest)))
    (kx : ∀ (x : Nat) (E : String) (ce : Cell) (q : Nat) (w' : ww_W) (H1 : Heap) (locs1 : List Loc), yex[x]? = some E → Q' (.inr x) w' 0 0 → ww_I D cl b0 w' s.heap H1 locs1 → H1[q]? = some ce → ce.vm = .none → s.vm.findClass E = some ce.cls → vx_W p l e R s m args below meth c H1 locs1 (k + K') (n + N') Qf (F0 m pc ls rest) q) : W p l e R s m args below meth c H locs k n Qf (F0 m pc ls st0) := by
  refine ww_know fun k1 k2 => ?_
  intro T hT X
  rcases hr T hT X with ⟨v, st₀, t, T', Ls, h0, X', hL, e1, e2, ⟨⟨v', u, hv, hq, hB⟩, hz, hk⟩, st⟩ | ⟨q, st₀, t, T', Ls, E, ce, h0, X', hL, e1, e2, ⟨x, u, hx, hq, hA, hz, hk⟩, hce, hcv, hcl, st⟩
  · cases hv
    rw [h0] at hz hk hB
    have hI' : ww_I D cl b0 u.1 s.heap T'.heap (locs ++ Ls) := by
      refine ⟨by rw [e1]; exact hB.1.1, ⟨by rw [e1]; exact Nat.le_trans hI.2.1.1 hz, fun q g1 g2 => ?_, fun q hq => ?_⟩, hI.2.2⟩
      · rw [e1, hk q (Nat.lt_of_lt_of_le g1 hI.2.1.1) g2]
        exact hI.2.1.2.1 q g1 g2
      · rcases List.mem_append.mp hq with h | h
        · exact hI.2.1.2.2 q h
        · exact hL q h
    have hb1 : T'.heap.size ≤ H.size + u.2.1 := by rw [e1]; exact hB.2.1
    have hb2 : ww_t T'.heap ≤ ww_t H + u.2.2 := by rw [e1]; exact hB.2.2
    obtain ⟨t2, a1, b1⟩ := (ww_tight (cells := k + K') (slots := n + N') (show T'.heap.size ≤ s.heap.size + (k + u.2.1) by omega) (show ww_t T'.heap ≤ ww_t s.heap + (n + u.2.2) by omega) (kk v u.1 u.2.1 u.2.2 T'.heap (locs ++ Ls) hq hI')) T' rfl X'
    exact ⟨t2, st t2 a1, b1⟩
  · rw [h0] at hz hk
    have hI' : ww_I D cl b0 u s.heap T'.heap (locs ++ Ls) := by
      refine ⟨by rw [e1]; exact hA.1, ⟨by rw [e1]; exact Nat.le_trans hI.2.1.1 hz, fun q g1 g2 => ?_, fun q hq => ?_⟩, hI.2.2⟩
      · rw [e1, hk q (Nat.lt_of_lt_of_le g1 hI.2.1.1) g2]
        exact hI.2.1.2.1 q g1 g2
      · rcases List.mem_append.mp hq with h | h
        · exact hI.2.1.2.2 q h
        · exact hL q h
    obtain ⟨t2, a1, b1⟩ := kx x E ce q u T'.heap (locs ++ Ls) hx hq hI' (by rw [e1]; exact hce) hcv hcl T' rfl X'
    exact ⟨t2, st.trans a1, b1⟩
end YK
/-! calls of methods that don't throw (told by P0) -/
def ygo (P0 : zP) (nL' μ' : Nat) (As rest : List Value) : zP → zP := fun P d K N μ pc L _ w k n Q => ∃ (d' K' N' : Nat) (Q' : zQ), d' + 1 ≤ d ∧ k + K' ≤ K ∧ n + N' ≤ N ∧ P0 d' K' N' μ' 0 (zargs nL' As) [] w 0 0 Q' ∧ (∀ (x : Nat) (w : ww_W) (k n : Nat), ¬ Q' (.inr x) w k n) ∧ ∀ (v : Option Value) (w' : ww_W) (k' n' : Nat), Q' (.inl v) w' k' n' → P d K N μ (pc + 3) L (v.toList ++ rest) w' (k + k') (n + n') Q
theorem ygo_mono (P0 : zP) (nL' μ' : Nat) (As rest : List Value) : zMono (ygo P0 nL' μ' As rest) := fun _ _ h _ _ _ _ _ _ _ _ _ _ _ ⟨d', K', N', Q', h1, h2, h3, h4, hno, h5⟩ => ⟨d', K', N', Q', h1, h2, h3, h4, hno, fun v w' k' n' hq => h _ _ _ _ _ _ _ _ _ _ _ (h5 v w' k' n' hq)⟩
def ycS (P0 : zP) (nL' μ' na : Nat) : zP → zP := fun P d K N μ pc L st w k n Q => ∃ As rest : List Value, st = As.reverse ++ rest ∧ As.length = na ∧ (lg_sl As).length ≤ nL' ∧ (rest.map fun v => v.category).sum ≤ 8 ∧ ygo P0 nL' μ' As rest P d K N μ pc L st w k n Q
theorem ycS_mono (P0 : zP) (nL' μ' na : Nat) : zMono (ycS P0 nL' μ' na) := fun P P' h d K N μ pc L st w k n Q ⟨As, rest, h1, h2, h3, h4, h5⟩ => ⟨As, rest, h1, h2, h3, h4, ygo_mono P0 nL' μ' As rest P P' h d K N μ pc L st w k n Q h5⟩
def ycI (P0 : zP) (nL' μ' na : Nat) : zP → zP := fun P d K N μ pc L st w k n Q => ∃ (b : Nat) (As rest : List Value), st = As.reverse ++ .ref b :: rest ∧ As.length = na ∧ (lg_sl (.ref b :: As)).length ≤ nL' ∧ (rest.map fun v => v.category).sum ≤ 8 ∧ ygo P0 nL' μ' (.ref b :: As) rest P d K N μ pc L st w k n Q
theorem ycI_mono (P0 : zP) (nL' μ' na : Nat) : zMono (ycI P0 nL' μ' na) := fun P P' h d K N μ pc L st w k n Q ⟨b, As, rest, h1, h2, h3, h4, h5⟩ => ⟨b, As, rest, h1, h2, h3, h4, ygo_mono P0 nL' μ' (.ref b :: As) rest P P' h d K N μ pc L st w k n Q h5⟩
def ycV (P0 : zP) (nL' μ' na ci : Nat) : zP → zP := fun P d K N μ pc L st w k n Q => ∃ (b : Nat) (As rest fs : List Value), st = As.reverse ++ .ref b :: rest ∧ As.length = na ∧ (lg_sl (.ref b :: As)).length ≤ nL' ∧ (rest.map fun v => v.category).sum ≤ 8 ∧ w b = some (.inr (ci, fs)) ∧ ygo P0 nL' μ' (.ref b :: As) rest P d K N μ pc L st w k n Q
theorem ycV_mono (P0 : zP) (nL' μ' na ci : Nat) : zMono (ycV P0 nL' μ' na ci) := fun P P' h d K N μ pc L st w k n Q ⟨b, As, rest, fs, h1, h2, h3, h4, h5, h6⟩ => ⟨b, As, rest, fs, h1, h2, h3, h4, h5, ygo_mono P0 nL' μ' (.ref b :: As) rest P P' h d K N μ pc L st w k n Q h6⟩
/-! calls of methods that may throw: it goes on to the caller (T); it is caught (H: class's number, handler) -/
def ygT (nL' μ' : Nat) (As rest : List Value) : zP → zP := fun P d K N μ pc L _ w k n Q => ∃ (d' K' N' : Nat) (Q' : zQ), d' + 1 ≤ d ∧ k + K' ≤ K ∧ n + N' ≤ N ∧ P d' K' N' μ' 0 (zargs nL' As) [] w 0 0 Q' ∧ (∀ (v : Option Value) (w' : ww_W) (k' n' : Nat), Q' (.inl v) w' k' n' → P d K N μ (pc + 3) L (v.toList ++ rest) w' (k + k') (n + n') Q) ∧ ∀ (x : Nat) (w' : ww_W), Q' (.inr x) w' 0 0 → Q (.inr x) w' 0 0
theorem ygT_mono (nL' μ' : Nat) (As rest : List Value) : zMono (ygT nL' μ' As rest) := fun _ _ h _ _ _ _ _ _ _ _ _ _ _ ⟨d', K', N', Q', h1, h2, h3, h4, h5, h6⟩ => ⟨d', K', N', Q', h1, h2, h3, h _ _ _ _ _ _ _ _ _ _ _ h4, fun v w' k' n' hq => h _ _ _ _ _ _ _ _ _ _ _ (h5 v w' k' n' hq), h6⟩
def ygH (hs : List (Nat × Nat)) (nL' μ' : Nat) (As rest : List Value) : zP → zP := fun P d K N μ pc L _ w k n Q => ∃ (d' K' N' : Nat) (Q' : zQ), d' + 1 ≤ d ∧ k + K' ≤ K ∧ n + N' ≤ N ∧ P d' K' N' μ' 0 (zargs nL' As) [] w 0 0 Q' ∧ (∀ (v : Option Value) (w' : ww_W) (k' n' : Nat), Q' (.inl v) w' k' n' → P d K N μ (pc + 3) L (v.toList ++ rest) w' (k + k') (n + n') Q) ∧ ∀ (x : Nat) (w' : ww_W), Q' (.inr x) w' 0 0 → ∃ h : Nat, (x, h) ∈ hs ∧ ∀ q : Nat, P d K N μ h L [.ref q] w' (k + K') (n + N') Q
theorem ygH_mono (hs : List (Nat × Nat)) (nL' μ' : Nat) (As rest : List Value) : zMono (ygH hs nL' μ' As rest) := fun _ _ h _ _ _ _ _ _ _ _ _ _ _ ⟨d', K', N', Q', h1, h2, h3, h4, h5, h6⟩ => ⟨d', K', N', Q', h1, h2, h3, h _ _ _ _ _ _ _ _ _ _ _ h4, fun v w' k' n' hq => h _ _ _ _ _ _ _ _ _ _ _ (h5 v w' k' n' hq), fun x w' hq => by
  obtain ⟨t, t1, t2⟩ := h6 x w' hq
  exact ⟨t, t1, fun q => h _ _ _ _ _ _ _ _ _ _ _ (t2 q)⟩⟩
def ytS (nL' μ' na : Nat) : zP → zP := fun P d K N μ pc L st w k n Q => ∃ As rest : List Value, st = As.reverse ++ rest ∧ As.length = na ∧ (lg_sl As).length ≤ nL' ∧ (rest.map fun v => v.category).sum ≤ 8 ∧ ygT nL' μ' As rest P d K N μ pc L st w k n Q
theorem ytS_mono (nL' μ' na : Nat) : zMono (ytS nL' μ' na) := fun P P' h d K N μ pc L st w k n Q ⟨As, rest, h1, h2, h3, h4, h5⟩ => ⟨As, rest, h1, h2, h3, h4, ygT_mono nL' μ' As rest P P' h d K N μ pc L st w k n Q h5⟩
def yhS (hs : List (Nat × Nat)) (nL' μ' na : Nat) : zP → zP := fun P d K N μ pc L st w k n Q => ∃ As rest : List Value, st = As.reverse ++ rest ∧ As.length = na ∧ (lg_sl As).length ≤ nL' ∧ (rest.map fun v => v.category).sum ≤ 8 ∧ ygH hs nL' μ' As rest P d K N μ pc L st w k n Q
theorem yhS_mono (hs : List (Nat × Nat)) (nL' μ' na : Nat) : zMono (yhS hs nL' μ' na) := fun P P' h d K N μ pc L st w k n Q ⟨As, rest, h1, h2, h3, h4, h5⟩ => ⟨As, rest, h1, h2, h3, h4, ygH_mono hs nL' μ' As rest P P' h d K N μ pc L st w k n Q h5⟩
def yhV (hs : List (Nat × Nat)) (nL' μ' na ci : Nat) : zP → zP := fun P d K N μ pc L st w k n Q => ∃ (b : Nat) (As rest fs : List Value), st = As.reverse ++ .ref b :: rest ∧ As.length = na ∧ (lg_sl (.ref b :: As)).length ≤ nL' ∧ (rest.map fun v => v.category).sum ≤ 8 ∧ w b = some (.inr (ci, fs)) ∧ ygH hs nL' μ' (.ref b :: As) rest P d K N μ pc L st w k n Q
theorem yhV_mono (hs : List (Nat × Nat)) (nL' μ' na ci : Nat) : zMono (yhV hs nL' μ' na ci) := fun P P' h d K N μ pc L st w k n Q ⟨b, As, rest, fs, h1, h2, h3, h4, h5, h6⟩ => ⟨b, As, rest, fs, h1, h2, h3, h4, h5, ygH_mono hs nL' μ' (.ref b :: As) rest P P' h d K N μ pc L st w k n Q h6⟩
/-- what a catching row needs: the rows ahead don't take the class, this one does -/
def yhd (eh : List (Nat × Nat × Nat × Nat)) (own : String) (big nst : List Cond) (pc : Nat) (q : Nat × Nat) : Prop := ∃ (E : String) (pre : List ExceptionTableEntry) (x : ExceptionTableEntry) (suf : List ExceptionTableEntry) (nm : String), yex[q.1]? = some E ∧ tableOf eh = pre ++ x :: suf ∧ (∀ z ∈ pre, z.catchType ≠ 0 ∧ ∃ n2 : String, Cond.classLink own z.catchType n2 ∈ big ∧ Cond.not (.castable E n2) ∈ nst) ∧ covers x pc = true ∧ x.catchType ≠ 0 ∧ Cond.classLink own x.catchType nm ∈ big ∧ Cond.castable E nm ∈ nst ∧ x.handlerPc = q.2
section YL
variable {l : Launch} {mt : zMt} {eh : Nat → List (Nat × Nat × Nat × Nat)} {big nst : List Cond} {D : va_G} {cl : List vw_C} {tys : List (ClassId × FieldType)} {X : State → Prop} {b0 μ pc : Nat}
theorem ytS_ok (hst : ww_st nst) (hX : yKp b0 X) {μ' na index : Nat} (hd : decode (mt μ).2.1 pc = .ok (.invokestatic index, 3)) (hy : plainName (mt μ').1.cls = true) (he : eh μ' = []) (he2 : eh μ = []) (hg : GoodIn big (va_wsS (mt μ).1.cls index (mt μ').1 (zws mt big μ'))) (hds : (mt μ').1.cls ≠ "java/lang/invoke/MethodHandle" ∧ (mt μ').1.cls ≠ "java/lang/invoke/VarHandle" ∧ (parseMethodDescriptor (mt μ').1.desc).map (fun d => d.parameters.length) = some na) (hmax : (mt μ').2.2.1 ≤ 45) : yS l mt eh big nst D cl tys b0 X μ pc (ytS (mt μ').2.2.1 μ' na) := by
  intro d K N L st w k n Q hx p e R s m args below meth c hY H locs ls hI hL
  obtain ⟨As, rest, rfl, h2, h3, h4, d', K', N', Q', g1, g2, g3, g4, g5, g6⟩ := hx
  obtain ⟨hC, hXs, hT⟩ := id hY
  obtain ⟨hx, hb, hml, hr, hts, hown, hlk, hnm, hK, hd1, hd2, hd3, hd4, hN⟩ := id hC
  have hsz : ls.size = (mt μ).2.2.1 := by obtain ⟨-, lv, q1, -⟩ := hL; exact q1.1
  have hvo : ∀ x ∈ c.exceptionTable.toList, covers x pc = false := by
    rw [hT, he2]
    intro x hx
    cases hx
  exact y_call hI (vx_runS (As := As) (rest := rest) ⟨hx, hb, hml, hown, hts⟩ (g4.met hy he h3) (va_cwS na hts hg rfl rfl rfl hds ⟨by show d' + 1 ≤ R.frames; omega, by show 8 + ((mt μ').2.2.1 + 11) + 64 * d' ≤ R.locals; omega⟩) (y_preS hst hX hN hK hXs hI) rfl h2 hsz rfl (lv_room h4) hd ⟨by omega, by omega⟩)
    (fun v w' k' n' H1 locs1 hq hI1 => g5 v w' k' n' hq p e R s m args below meth c hY H1 locs1 ls hI1 hL)
    (fun x E ce q w' H1 locs1 hE hq hI1 hce hcv hcl => vx_out hvo hlk hce hcv hcl (fun t ht ha => ⟨x, w', hE, g6 x w' hq, ⟨by rw [ht]; exact hI1.1, by rw [ht]; exact Nat.le_trans hI1.2.2 hI1.2.1.1, va_K.moved ha hK⟩, hI1.2.1.F ht⟩) hI1.2.1.2.2 (by omega) (by omega))
theorem yhV_ok (hst : ww_st nst) (hX : yKp b0 X) {hs : List (Nat × Nat)} {μ' na ci index : Nat} {q : vw_C} (hh : ∀ z ∈ hs, yhd (eh μ) (mt μ).1.cls big nst pc z) (hd : decode (mt μ).2.1 pc = .ok (.invokevirtual index, 3)) (hy : plainName (mt μ').1.cls = true) (he : eh μ' = []) (hc : cl[ci]? = some q) (hg : GoodIn big (wsV (mt μ).1.cls index q.1 (mt μ').1 (zws mt big μ'))) (hds : (mt μ').1.cls = q.1 ∧ (mt μ').1.cls ≠ "java/lang/invoke/MethodHandle" ∧ (mt μ').1.cls ≠ "java/lang/invoke/VarHandle" ∧ (parseMethodDescriptor (mt μ').1.desc).map (fun d => d.parameters.length) = some na) (hmax : (mt μ').2.2.1 ≤ 45) : yS l mt eh big nst D cl tys b0 X μ pc (yhV hs (mt μ').2.2.1 μ' na ci) := by
  intro d K N L st w k n Q hx p e R s m args below meth c hY H locs ls hI hL
  obtain ⟨b, As, rest, fs, rfl, q2, q3, q4, q5, d', K', N', Q', g1, g2, g3, g4, g5, g6⟩ := hx
  obtain ⟨hC, hXs, hT⟩ := id hY
  obtain ⟨hx, hb, hml, hr, hts, hown, hlk, hnm, hK, hd1, hd2, hd3, hd4, hN⟩ := id hC
  have hsz : ls.size = (mt μ).2.2.1 := by obtain ⟨-, lv, q1, -⟩ := hL; exact q1.1
  refine y_call hI (vx_runV (As := As) (rest := rest) ⟨hx, hb, hml, hown, hts⟩ (g4.met hy he q3) (cwV na hts hg rfl rfl rfl hds ⟨by show d' + 1 ≤ R.frames; omega, by show 8 + ((mt μ').2.2.1 + 11) + 64 * d' ≤ R.locals; omega⟩) (y_preV hst hX hN hK hXs hI hc q5) rfl q2 hsz rfl (lv_room q4) hd ⟨by omega, by omega⟩)
    (fun v w' k' n' H1 locs1 hq hI1 => g5 v w' k' n' hq p e R s m args below meth c hY H1 locs1 ls hI1 hL) (fun x E ce q9 w' H1 locs1 hE hq hI1 hce hcv hcl => ?_)
  obtain ⟨h, hm, hk⟩ := g6 x w' hq
  obtain ⟨E', pre, en, suf, nm, e1, e2, e3, e4, e5, e6, e7, e8⟩ := hh (x, h) hm
  have e9 : E' = E := Option.some.inj (e1.symm.trans hE)
  subst e9
  refine vx_catch (name := nm) hown pre en suf (hT.trans e2) (fun z hz => Or.inr ⟨(e3 z hz).1, ?_⟩) e4 e5 (hts _ e6) (va_Nw.use rfl (hN _ e7)) hce hcv hcl ?_
  · obtain ⟨n2, f1, f2⟩ := (e3 z hz).2
    exact ⟨n2, hts _ f1, va_Nc.of (hN _ f2)⟩
  · rw [show en.handlerPc = h from e8]
    exact hk q9 p e R s m args below meth c hY H1 locs1 ls hI1 hL
/-- a method with a table of its own, that lets nothing out -/
theorem yhS_ok (hst : ww_st nst) (hX : yKp b0 X) {μ' na index : Nat} (hd : decode (mt μ).2.1 pc = .ok (.invokestatic index, 3)) (hy : plainName (mt μ').1.cls = true) (hg : GoodIn big (va_wsS (mt μ).1.cls index (mt μ').1 (ywsW mt eh big μ'))) (hds : (mt μ').1.cls ≠ "java/lang/invoke/MethodHandle" ∧ (mt μ').1.cls ≠ "java/lang/invoke/VarHandle" ∧ (parseMethodDescriptor (mt μ').1.desc).map (fun d => d.parameters.length) = some na) (hmax : (mt μ').2.2.1 ≤ 45) : yS l mt eh big nst D cl tys b0 X μ pc (yhS [] (mt μ').2.2.1 μ' na) := by
  intro d K N L st w k n Q hx p e R s m args below meth c hY H locs ls hI hL
  obtain ⟨As, rest, rfl, h2, h3, h4, d', K', N', Q', g1, g2, g3, g4, g5, g6⟩ := hx
  obtain ⟨hC, hXs, hT⟩ := id hY
  obtain ⟨hx, hb, hml, hr, hts, hown, hlk, hnm, hK, hd1, hd2, hd3, hd4, hN⟩ := id hC
  have hsz : ls.size = (mt μ).2.2.1 := by obtain ⟨-, lv, q1, -⟩ := hL; exact q1.1
  exact y_call hI (vx_runSX (hh := eh μ') (As := As) (rest := rest) ⟨hx, hb, hml, hown, hts⟩ (g4.metW hy h3) (vx_cwSW na hts hg rfl rfl rfl hds ⟨by show d' + 1 ≤ R.frames; omega, by show 8 + ((mt μ').2.2.1 + 11) + 64 * d' ≤ R.locals; omega⟩) (y_preS hst hX hN hK hXs hI) rfl h2 hsz rfl (lv_room h4) hd ⟨by omega, by omega⟩)
    (fun v w' k' n' H1 locs1 hq hI1 => g5 v w' k' n' hq p e R s m args below meth c hY H1 locs1 ls hI1 hL)
    (fun x E ce q w' H1 locs1 hE hq hI1 hce hcv hcl => by obtain ⟨h, hm, _⟩ := g6 x w' hq; cases hm)
/-- throw new E(text) -/
def ythr (x : Nat) : zP → zP := fun _ d K N _ _ _ st w k n Q => st = [] ∧ 8 ≤ d ∧ k + 1 ≤ K ∧ n + 6 ≤ N ∧ Q (.inr x) w 0 0
theorem ythr_mono (x : Nat) : zMono (ythr x) := fun _ _ _ _ _ _ _ _ _ _ _ _ _ _ hx => hx
theorem ythr_ok (hl : l.stackTraces = false) {E text : String} {names : List String} {ik is ic x : Nat} (hE : yex[x]? = some E) (hXs : ∀ s : State, X s → vx_Zq Bundle.tN "UNASSIGNED_STACK" Bundle.steD (ww_F b0) s s.heap ∧ vx_Zq Bundle.tN "SUPPRESSED_SENTINEL" Bundle.listD (ww_F b0) s s.heap ∧ ∃ sa : Nat, vk_R (mt μ).1.cls is text sa s) (he : eh μ = []) (hf : Bundle.fit E = true) (hfn : ∀ n ∈ names, Bundle.fit n = true) (hnl : names.length ≤ 3) (hk : Cond.classLink (mt μ).1.cls ik E ∈ big) (hini : Cond.initialized E ∈ big) (hat : ∀ w ∈ vx_atS (mt μ).1.cls ic E names, w ∈ big ∨ (w ∈ nst ∧ w.onTables = true)) (hgood : ∀ w ∈ Cond.classLink (mt μ).1.cls ik E :: Cond.initialized E :: vx_atS (mt μ).1.cls ic E names, vx_ot w = true)
    (d0 : decode (mt μ).2.1 pc = .ok (.new ik, 3)) (d3 : decode (mt μ).2.1 (pc + 3) = .ok (.dup, 1)) (d4 : decode (mt μ).2.1 (pc + 4) = .ok (.ldc is, 2)) (d6 : decode (mt μ).2.1 (pc + 6) = .ok (.invokespecial ic, 3)) (d9 : decode (mt μ).2.1 (pc + 9) = .ok (.athrow, 1)) : yS l mt eh big nst D cl tys b0 X μ pc (ythr x) := by
  intro d K N L st w k n Q hx p e R s m args below meth c hY H locs ls hI hL
  obtain ⟨rfl, h1, h2, h3, h4⟩ := hx
  obtain ⟨hC, hXs', hT⟩ := id hY
  obtain ⟨hx, hb, hml, hr, hts, hown, hlk, hnm, hK, hd1, hd2, hd3, hd4, hN⟩ := id hC
  have hsz : ls.size = (mt μ).2.2.1 := by obtain ⟨-, lv, q1, -⟩ := hL; exact q1.1
  obtain ⟨hU, hS9, sa, hstr⟩ := hXs s hXs'
  have hvo : ∀ x ∈ c.exceptionTable.toList, covers x (pc + 9) = false := by
    rw [hT, he]
    intro x hx
    cases hx
  exact vx_throwS hx hb hl hown hf hfn (hts _ hk) (hts _ hini) hstr (fun w hw => (hat w hw).elim (hts w) (fun q => va_Nw.use q.2 (hN w q.1))) hgood hU hS9 hI.2.1 (hsz.trans hml.symm) d0 d3 d4 d6 d9 hvo (by omega) (by show 0 + (13 * (names.length + 1) + 43) ≤ R.locals; omega) (by omega) (by omega) hlk
    (fun t ha hz hq => ⟨x, w, hE, h4, ⟨fun a e he => ⟨(hI.1 a e he).1.kept (hq a (hI.lt he)), (hI.1 a e he).2⟩, Nat.le_trans hI.2.2 (Nat.le_trans hI.2.1.1 hz), va_K.moved ha hK⟩, Nat.le_trans hI.2.1.1 hz, fun q h5 h6 => (hq q (Nat.lt_of_lt_of_le h5 hI.2.1.1)).trans (hI.2.1.2.1 q h5 h6)⟩) hI.2.1.2.2 (by omega) (by omega)
theorem ythrN_ok (hl : l.stackTraces = false) {E sup text : String} {bytes : ByteArray} {ix : Nat} {names : List String} {ik is ic x : Nat} (hE : yex[x]? = some E) (hXs : ∀ s : State, X s → vx_Zq Bundle.tN "UNASSIGNED_STACK" Bundle.steD (ww_F b0) s s.heap ∧ vx_Zq Bundle.tN "SUPPRESSED_SENTINEL" Bundle.listD (ww_F b0) s s.heap ∧ ∃ sa : Nat, vk_R (mt μ).1.cls is text sa s) (he : eh μ = []) (hf : Bundle.fit E = true) (hsup : Bundle.fit sup = true) (c0 : decode bytes 0 = .ok (.aload_n 0, 1)) (c1 : decode bytes 1 = .ok (.aload_n 1, 1)) (c2 : decode bytes 2 = .ok (.invokespecial ix, 3)) (c5 : decode bytes 5 = .ok (.return_, 1)) (hfn : ∀ n ∈ names, Bundle.fit n = true) (hnl : names.length ≤ 2) (hk : Cond.classLink (mt μ).1.cls ik E ∈ big) (hini : Cond.initialized E ∈ big) (hat : ∀ w ∈ vx_atY (mt μ).1.cls ic E sup ix bytes names, w ∈ big ∨ (w ∈ nst ∧ w.onTables = true)) (hgood : ∀ w ∈ Cond.classLink (mt μ).1.cls ik E :: Cond.initialized E :: vx_atY (mt μ).1.cls ic E sup ix bytes names, vx_ot w = true)
    (d0 : decode (mt μ).2.1 pc = .ok (.new ik, 3)) (d3 : decode (mt μ).2.1 (pc + 3) = .ok (.dup, 1)) (d4 : decode (mt μ).2.1 (pc + 4) = .ok (.ldc is, 2)) (d6 : decode (mt μ).2.1 (pc + 6) = .ok (.invokespecial ic, 3)) (d9 : decode (mt μ).2.1 (pc + 9) = .ok (.athrow, 1)) : yS l mt eh big nst D cl tys b0 X μ pc (ythr x) := by
  intro d K N L st w k n Q hx p e R s m args below meth c hY H locs ls hI hL
  obtain ⟨rfl, h1, h2, h3, h4⟩ := hx
  obtain ⟨hC, hXs', hT⟩ := id hY
  obtain ⟨hx, hb, hml, hr, hts, hown, hlk, hnm, hK, hd1, hd2, hd3, hd4, hN⟩ := id hC
  have hsz : ls.size = (mt μ).2.2.1 := by obtain ⟨-, lv, q1, -⟩ := hL; exact q1.1
  obtain ⟨hU, hS9, sa, hstr⟩ := hXs s hXs'
  have hvo : ∀ x ∈ c.exceptionTable.toList, covers x (pc + 9) = false := by
    rw [hT, he]
    intro x hx
    cases hx
  exact vx_throwY hx hb hl hown hf hsup c0 c1 c2 c5 hfn (hts _ hk) (hts _ hini) hstr (fun w hw => (hat w hw).elim (hts w) (fun q => va_Nw.use q.2 (hN w q.1))) hgood hU hS9 hI.2.1 (hsz.trans hml.symm) d0 d3 d4 d6 d9 hvo (by omega) (by show 0 + (13 * (names.length + 2) + 43) ≤ R.locals; omega) (by omega) (by omega) hlk
    (fun t ha hz hq => ⟨x, w, hE, h4, ⟨fun a e he => ⟨(hI.1 a e he).1.kept (hq a (hI.lt he)), (hI.1 a e he).2⟩, Nat.le_trans hI.2.2 (Nat.le_trans hI.2.1.1 hz), va_K.moved ha hK⟩, Nat.le_trans hI.2.1.1 hz, fun q h5 h6 => (hq q (Nat.lt_of_lt_of_le h5 hI.2.1.1)).trans (hI.2.1.2.1 q h5 h6)⟩) hI.2.1.2.2 (by omega) (by omega)
/-! the script: an array of ints that was there before -/
def yslen (b L9 : Nat) : zP → zP := fun P d K N μ pc L st w k n Q => ∃ r : List Value, st = .ref b :: r ∧ P d K N μ (pc + 1) L (.int (nI L9) :: r) w k n Q
theorem yslen_mono (b L9 : Nat) : zMono (yslen b L9) := fun _ _ h _ _ _ _ _ _ _ _ _ _ _ ⟨r, h1, h2⟩ => ⟨r, h1, h _ _ _ _ _ _ _ _ _ _ _ h2⟩
theorem yslen_ok {b L9 : Nat} {xs : Nat → Int32} (hb0 : b < b0) (hXs : ∀ s : State, X s → va_X b L9 xs s s.heap) (hd : decode (mt μ).2.1 pc = .ok (.arraylength, 1)) : yS l mt eh big nst D cl tys b0 X μ pc (yslen b L9) := by
  intro d K N L st w k n Q hx p e R s m args below meth c hY H locs ls hI hL
  obtain ⟨r, rfl, h2⟩ := hx
  have hC := hY.1
  exact va_slen hC.1 hC.2.1 (hXs s hY.2.1) (Nat.lt_of_lt_of_le hb0 hI.2.2) (Nat.not_le.mpr hb0) hI.2.1 hd (h2 p e R s m args below meth c hY H locs ls hI hL)
def ysld (b L9 : Nat) (xs : Nat → Int32) : zP → zP := fun P d K N μ pc L st w k n Q => ∃ (j : Nat) (r : List Value), st = .int (nI j) :: .ref b :: r ∧ j < L9 ∧ L9 < 2 ^ 31 ∧ P d K N μ (pc + 1) L (.int (xs j) :: r) w k n Q
theorem ysld_mono (b L9 : Nat) (xs : Nat → Int32) : zMono (ysld b L9 xs) := fun _ _ h _ _ _ _ _ _ _ _ _ _ _ ⟨j, r, h1, h2, h3, h4⟩ => ⟨j, r, h1, h2, h3, h _ _ _ _ _ _ _ _ _ _ _ h4⟩
theorem ysld_ok {b L9 : Nat} {xs : Nat → Int32} (hb0 : b < b0) (hXs : ∀ s : State, X s → va_X b L9 xs s s.heap) (hd : decode (mt μ).2.1 pc = .ok (.iaload, 1)) : yS l mt eh big nst D cl tys b0 X μ pc (ysld b L9 xs) := by
  intro d K N L st w k n Q hx p e R s m args below meth c hY H locs ls hI hL
  obtain ⟨j, r, rfl, h2, h3, h4⟩ := hx
  have hC := hY.1
  have hk := h4 p e R s m args below meth c hY H locs ls hI hL
  refine va_sld hC.1 hC.2.1 (hXs s hY.2.1) (Nat.lt_of_lt_of_le hb0 hI.2.2) (Nat.not_le.mpr hb0) hI.2.1 (vp_in_nI h2 h3) hd ?_
  rw [nI_clamp (Nat.lt_trans h2 h3)]
  exact hk
end YL
section YJ
variable {l : Launch} {mt : zMt} {eh : Nat → List (Nat × Nat × Nat × Nat)} {big nst : List Cond} {D : va_G} {cl : List vw_C} {tys : List (ClassId × FieldType)} {X : State → Prop} {b0 μ pc : Nat}
theorem yi_ok {len : Nat} {g : zV → List Value → Option (zV × List Value)} (h : zg big (mt μ).1.cls (mt μ).2.1 (mt μ).2.2.1 pc len g) : yS l mt eh big nst D cl tys b0 X μ pc (zi g len) := by
  intro d K N L st w k n Q hx p e R s m args below meth c hY H locs ls hI hL
  have hC := hY.1
  obtain ⟨L', st', hg, hk⟩ := hx
  exact h p l e R s m args below meth c H locs k n _ ls L st L' st' hC.1 hC.2.1 hC.2.2.2.2.1 hC.2.2.2.2.2.1 hL hg (fun ls' hL' => hk p e R s m args below meth c hY H locs ls' hI hL')
theorem yb_ok {tgt : Nat} {f : List Value → Option (Prop × List Value)} (h : zbg (mt μ).2.1 pc tgt f) : yS l mt eh big nst D cl tys b0 X μ pc (zb f tgt) := by
  intro d K N L st w k n Q hx p e R s m args below meth c hY H locs ls hI hL
  have hC := hY.1
  obtain ⟨φ, st', hg, h1, h2⟩ := hx
  exact h p l e R s m args below meth c H locs k n _ ls st φ st' hC.1 hC.2.1 hg (fun x => h1 x p e R s m args below meth c hY H locs ls hI hL) (fun x => h2 x p e R s m args below meth c hY H locs ls hI hL)
theorem yj_ok {tgt : Nat} {off : Int} (hd : decode (mt μ).2.1 pc = .ok (.goto off, 3)) (ht : (pc : Int) + off = (tgt : Int)) : yS l mt eh big nst D cl tys b0 X μ pc (zj tgt) := by
  intro d K N L st w k n Q hx p e R s m args below meth c hY H locs ls hI hL
  have hC := hY.1
  exact lv_goto hC.1 hC.2.1 hd ht (hx p e R s m args below meth c hY H locs ls hI hL)
theorem ysw_look {cs : List (Int × Nat)} {dflt len : Nat} {off : Int} {ps : Array (Int × Int)} (hd : decode (mt μ).2.1 pc = .ok (.lookupswitch off ps, len)) (hp : (ps.toList.zip (ps.toList.drop 1)).all (fun (a, next) => a.1 < next.1) = true) (hc : ps.toList.map (fun q => (q.1, (pc : Int) + q.2)) = cs.map (fun q => (q.1, (q.2 : Int)))) (h0 : (pc : Int) + off = (dflt : Int)) : yS l mt eh big nst D cl tys b0 X μ pc (zsw cs dflt) := by
  intro d K N L st w k n Q hx p e R s m args below meth c hY H locs ls hI hL
  have hC := hY.1
  obtain ⟨x, r, t, rfl, rfl, h3⟩ := hx
  exact lv_lookup hC.1 hC.2.1 hd hp rfl (zswt_look pc ps.toList cs off dflt hc h0 x.toInt) (h3 p e R s m args below meth c hY H locs ls hI hL)
theorem ysw_tab {cs : List (Int × Nat)} {dflt len : Nat} {off lo hi : Int} {offs : Array Int} (hd : decode (mt μ).2.1 pc = .ok (.tableswitch off lo hi offs, len)) (hh : hi = lo + (offs.toList.length : Int) - 1) (hc : (offs.toList.zipIdx.map (fun q => (lo + q.2, (pc : Int) + q.1))) = cs.map (fun q => (q.1, (q.2 : Int)))) (h0 : (pc : Int) + off = (dflt : Int)) : yS l mt eh big nst D cl tys b0 X μ pc (zsw cs dflt) := by
  intro d K N L st w k n Q hx p e R s m args below meth c hY H locs ls hI hL
  have hC := hY.1
  obtain ⟨x, r, t, rfl, rfl, h3⟩ := hx
  obtain ⟨t1, t2⟩ := zswt_tab pc offs.toList lo cs dflt hc x.toInt
  have hk := h3 p e R s m args below meth c hY H locs ls hI hL
  by_cases hout : x.toInt < lo ∨ hi < x.toInt
  · rw [t2 (by rcases hout with h | h; exact Or.inl h; exact Or.inr (by omega))] at hk
    exact lv_tableOut hC.1 hC.2.1 hd hout h0 hk
  · have h1 : ¬ x.toInt < lo := fun q => hout (Or.inl q)
    have h2 : ¬ hi < x.toInt := fun q => hout (Or.inr q)
    have hj : (x.toInt - lo).toNat < offs.toList.length := by omega
    have ho : offs.toList[(x.toInt - lo).toNat]? = some offs.toList[(x.toInt - lo).toNat] := List.getElem?_eq_getElem hj
    refine lv_tableIn hC.1 hC.2.1 hd h1 h2 (by rw [← Array.getElem?_toList]; exact ho) (t1 _ (by omega) _ ho) hk
theorem yget_ok {ci kf index NN : Nat} {C ref : String} {T : u_T} (hd : decode (mt μ).2.1 pc = .ok (.getfield index, 3)) (hc : cl[ci]? = some (C, T, NN)) (hin : ∀ w ∈ u_ws C T NN, w ∈ big) (hk : kf < NN) (hl : Cond.fieldLink (mt μ).1.cls index ref (T kf).2.1 (T kf).2.2.1 ∈ big) (hsame : (T kf).1 = ref) : yS l mt eh big nst D cl tys b0 X μ pc (zget ci kf) := by
  intro d K N L st w k n Q hx p e R s m args below meth c hY H locs ls hI hL
  have hC := hY.1
  obtain ⟨a, r, fs, v, rfl, h2, h3, h4⟩ := hx
  exact ww_get hC.1 hC.2.1 hC.2.2.2.2.1 hin hC.2.2.2.2.2.1 hC.2.2.2.2.2.2.2.2.1 hI h2 hc kf hk (hC.2.2.2.2.1 _ hl) (fun x hx => by rw [← hsame]; exact hx) h3 hd (h4 p e R s m args below meth c hY H locs ls hI hL)
theorem yput_ok {ty : FieldType} {ci kf index NN : Nat} {C ref : String} {T : u_T} (ty0 : Nat → FieldType) (hd : decode (mt μ).2.1 pc = .ok (.putfield index, 3)) (hc : cl[ci]? = some (C, T, NN)) (hin : ∀ w ∈ u_ws C T NN, w ∈ big) (hty : ∀ k, k < NN → parseFieldDescriptor (T k).2.2.1 = some (ty0 k)) (hnm : ∀ a, a < NN → ∀ b, b < NN → a ≠ b → (T a).2.1 ≠ (T b).2.1) (hk : kf < NN) (hl : Cond.fieldLink (mt μ).1.cls index ref (T kf).2.1 (T kf).2.2.1 ∈ big) (hsame : (T kf).1 = ref) (hfin : (T kf).2.2.2 = false ∨ ((T kf).2.2.2 = true ∧ (mt μ).1.name = "<init>" ∧ (T kf).1 = (mt μ).1.cls)) (ht : ty0 kf = ty) : yS l mt eh big nst D cl tys b0 X μ pc (zput ty ci kf) := by
  intro d K N L st w k n Q hx p e R s m args below meth c hY H locs ls hI hL
  have hC := hY.1
  obtain ⟨a, v, r, fs, rfl, h2, h3, h4, h5⟩ := hx
  have hdd : parseFieldDescriptor (T kf).2.2.1 = some ty := by rw [← ht]; exact hty kf hk
  rcases hfin with hf | ⟨hf, hi, ho⟩
  · exact ww_put hC.1 hC.2.1 hC.2.2.2.2.1 hin ty0 hty hnm hC.2.2.2.2.2.1 hC.2.2.2.2.2.2.2.2.1 hI h2 hc kf hk (hC.2.2.2.2.1 _ hl) (fun x hx => by rw [← hsame]; exact hx) hf hdd h4.1 h4.2 h3 hd (fun H1 locs1 hI1 => h5 p e R s m args below meth c hY H1 locs1 ls hI1 hL)
  · exact ww_putF hC.1 hC.2.1 hC.2.2.2.2.1 hin ty0 hty hnm hC.2.2.2.2.2.1 hC.2.2.2.2.2.2.2.2.1 hI h2 hc kf hk (hC.2.2.2.2.1 _ hl) (fun x hx => by rw [← hsame]; exact hx) hf (hC.2.2.2.2.2.2.2.1.trans hi) ho hdd h4.1 h4.2 h3 hd (fun H1 locs1 hI1 => h5 p e R s m args below meth c hY H1 locs1 ls hI1 hL)
theorem ynew_ok {ci NN index : Nat} {fs : List Value} {C : String} {T : u_T} (ty0 : Nat → FieldType) (hd : decode (mt μ).2.1 pc = .ok (.new index, 3)) (hc : cl[ci]? = some (C, T, NN)) (hin : ∀ w ∈ u_ws C T NN, w ∈ big) (hty : ∀ k, k < NN → parseFieldDescriptor (T k).2.2.1 = some (ty0 k)) (hl : Cond.classLink (mt μ).1.cls index C ∈ big) (hi : Cond.instantiable C NN ∈ big) (hz : Cond.initialized C ∈ big) (hfs : ∀ j, j < NN → defaultValue (ty0 j) = vp_V fs j) : yS l mt eh big nst D cl tys b0 X μ pc (znew ci NN fs) := by
  intro d K N L st w k n Q hx p e R s m args below meth c hY H locs ls hI hL
  have hC := hY.1
  obtain ⟨h1, h2, h3⟩ := hx
  exact ww_new hC.1 hC.2.1 hC.2.2.2.2.1 hin ty0 hty hC.2.2.2.2.2.1 (hC.2.2.2.2.1 _ hl) (hC.2.2.2.2.1 _ hi) (hC.2.2.2.2.1 _ hz) hC.2.2.2.2.2.2.2.2.1 hI hc hfs (Nat.le_trans h1 hC.2.2.2.2.2.2.2.2.2.2.2.1) (Nat.le_trans h2 hC.2.2.2.2.2.2.2.2.2.2.2.2.1) hd (fun q H1 hq hI1 => h3 q hq p e R s m args below meth c hY H1 locs ls hI1 hL)
theorem yiald_ok (hd : decode (mt μ).2.1 pc = .ok (.iaload, 1)) : yS l mt eh big nst D cl tys b0 X μ pc (ziald tys) := by
  intro d K N L st w k n Q hx p e R s m args below meth c hY H locs ls hI hL
  have hC := hY.1
  obtain ⟨a, j, r, t, cA, NA, f, rfl, h2, h3, h4, h5, h6⟩ := hx
  have hk := h6 p e R s m args below meth c hY H locs ls hI hL
  refine ww_iald hC.1 hC.2.1 hC.2.2.2.2.2.2.2.2.1 hI t h3 h2 (vp_in_nI h4 h5) hd ?_
  rw [nI_clamp (Nat.lt_trans h4 h5)]
  exact hk
theorem ylald_ok (hd : decode (mt μ).2.1 pc = .ok (.laload, 1)) : yS l mt eh big nst D cl tys b0 X μ pc (zlald tys) := by
  intro d K N L st w k n Q hx p e R s m args below meth c hY H locs ls hI hL
  have hC := hY.1
  obtain ⟨a, j, r, t, cA, NA, f, rfl, h2, h3, h4, h5, h6⟩ := hx
  have hk := h6 p e R s m args below meth c hY H locs ls hI hL
  refine ww_lald hC.1 hC.2.1 hC.2.2.2.2.2.2.2.2.1 hI t h3 h2 (vp_in_nI h4 h5) hd ?_
  rw [nI_clamp (Nat.lt_trans h4 h5)]
  exact hk
theorem ylast_ok (hd : decode (mt μ).2.1 pc = .ok (.lastore, 1)) : yS l mt eh big nst D cl tys b0 X μ pc (zlast tys) := by
  intro d K N L st w k n Q hx p e R s m args below meth c hY H locs ls hI hL
  have hC := hY.1
  obtain ⟨a, j, x, r, t, cA, NA, f, rfl, h2, h3, h4, h5, h6⟩ := hx
  refine ww_last hC.1 hC.2.1 hC.2.2.2.2.2.2.2.2.1 hI t h3 h2 (vp_in_nI h4 h5) hd (fun H1 locs1 hI1 => ?_)
  rw [nI_clamp (Nat.lt_trans h4 h5)] at hI1
  exact h6 p e R s m args below meth c hY H1 locs1 ls hI1 hL
theorem yaald_ok (hd : decode (mt μ).2.1 pc = .ok (.aaload, 1)) : yS l mt eh big nst D cl tys b0 X μ pc (zaald tys) := by
  intro d K N L st w k n Q hx p e R s m args below meth c hY H locs ls hI hL
  have hC := hY.1
  obtain ⟨a, j, r, t, cA, C, NA, f, v, rfl, h2, h3, h4, h5, rfl, h7⟩ := hx
  have hk := h7 p e R s m args below meth c hY H locs ls hI hL
  refine ww_aldq hC.1 hC.2.1 hC.2.2.2.2.2.2.2.2.1 hI t h3 h2 (vp_in_nI h4 h5) hd ?_
  rw [nI_clamp (Nat.lt_trans h4 h5)]
  exact hk
theorem ynewl_ok (hd : decode (mt μ).2.1 pc = .ok (.newarray .long, 2)) (ha : Cond.arrayClass (newarray.typeOf .long) ∈ big) : yS l mt eh big nst D cl tys b0 X μ pc (znewl tys) := by
  intro d K N L st w k n Q hx p e R s m args below meth c hY H locs ls hI hL
  have hC := hY.1
  obtain ⟨j, r, t, cA, rfl, h2, h3, h4, h5, h6⟩ := hx
  exact ww_newl hC.1 hC.2.1 (hC.2.2.2.2.1 _ ha) hC.2.2.2.2.2.2.2.2.1 hI t h2 (nI_pos (by omega)) (nI_clamp (by omega)) (by omega) (Nat.le_trans h4 hC.2.2.2.2.2.2.2.2.2.2.2.1) (Nat.le_trans h5 hC.2.2.2.2.2.2.2.2.2.2.2.2.1) hd (fun q H1 hq hI1 => h6 q hq p e R s m args below meth c hY H1 locs ls hI1 hL)
theorem yretI_ok (hd : decode (mt μ).2.1 pc = .ok (.ireturn, 1)) (hr : (mt μ).2.2.2 = some .int) : yS l mt eh big nst D cl tys b0 X μ pc zretI := by
  intro d K N L st w k n Q hx p e R s m args below meth c hY H locs ls hI hL
  have hC := hY.1
  obtain ⟨x, rfl, h1, h2, h3⟩ := hx
  refine ww_know fun k1 k2 => W.widen h1 h2 (vx_ret ?_)
  exact W.iret hC.1 hC.2.1 (hC.2.2.2.1.trans hr) (fun t ht hW => zQc_end hC.2.2.2.2.2.2.2.2.1 hI k1 k2 h3 ht hW) hI.2.1.2.2 hd hC.2.2.2.2.2.2.1
theorem yretZ_ok (hd : decode (mt μ).2.1 pc = .ok (.ireturn, 1)) (hr : (mt μ).2.2.2 = some .boolean) : yS l mt eh big nst D cl tys b0 X μ pc zretZ := by
  intro d K N L st w k n Q hx p e R s m args below meth c hY H locs ls hI hL
  have hC := hY.1
  obtain ⟨x, rfl, h0, h1, h2, h3⟩ := hx
  refine ww_know fun k1 k2 => W.widen h1 h2 (vx_ret ?_)
  exact W.zret hC.1 hC.2.1 (hC.2.2.2.1.trans hr) (by rcases h0 with rfl | rfl <;> rfl) (fun t ht hW => zQc_end hC.2.2.2.2.2.2.2.2.1 hI k1 k2 h3 ht hW) hI.2.1.2.2 hd hC.2.2.2.2.2.2.1
theorem ycast_ok {ys : List Nat} {index : Nat} {nm : String} (hd : decode (mt μ).2.1 pc = .ok (.checkcast index, 3)) (hl : Cond.classLink (mt μ).1.cls index nm ∈ big) (hy : ∀ ci ∈ ys, ∃ q : vw_C, cl[ci]? = some q ∧ Cond.castable q.1 nm ∈ nst) : yS l mt eh big nst D cl tys b0 X μ pc (zcast ys) := by
  intro d K N L st w k n Q hx p e R s m args below meth c hY H locs ls hI hL
  have hC := hY.1
  obtain ⟨v, r, rfl, h2, h3⟩ := hx
  obtain ⟨hx, hb, hml, hr, hts, hown, hlk, hnm, hK, hd1, hd2, hd3, hd4, hN⟩ := id hC
  have hk := h3 p e R s m args below meth c hY H locs ls hI hL
  rcases h2 with rfl | ⟨a, ci, fs, rfl, hci, ha⟩
  · exact lv_castN hx hb hd hk
  · obtain ⟨q, hq, hc⟩ := hy ci hci
    exact va_castY hx hb hown (hts _ hl) (hN _ hc) (ww_recv hK hI hq ha) hd hk
theorem yinst_ok {ys ns : List Nat} {index : Nat} {nm : String} (hd : decode (mt μ).2.1 pc = .ok (.instanceof index, 3)) (hl : Cond.classLink (mt μ).1.cls index nm ∈ big) (hy : ∀ ci ∈ ys, ∃ q : vw_C, cl[ci]? = some q ∧ Cond.castable q.1 nm ∈ nst) (hn : ∀ ci ∈ ns, ∃ q : vw_C, cl[ci]? = some q ∧ Cond.not (.castable q.1 nm) ∈ nst) : yS l mt eh big nst D cl tys b0 X μ pc (zinst ys ns) := by
  intro d K N L st w k n Q hx p e R s m args below meth c hY H locs ls hI hL
  have hC := hY.1
  obtain ⟨v, r, rfl, h2⟩ := hx
  obtain ⟨hx, hb, hml, hr, hts, hown, hlk, hnm, hK, hd1, hd2, hd3, hd4, hN⟩ := id hC
  rcases h2 with ⟨rfl, h3⟩ | ⟨a, ci, fs, rfl, hci, ha, h3⟩ | ⟨a, ci, fs, rfl, hci, ha, h3⟩
  · exact lv_instN hx hb hd (h3 p e R s m args below meth c hY H locs ls hI hL)
  · obtain ⟨q, hq, hc⟩ := hy ci hci
    exact va_instY hx hb hown (hts _ hl) (hN _ hc) (ww_recv hK hI hq ha) hd (h3 p e R s m args below meth c hY H locs ls hI hL)
  · obtain ⟨q, hq, hc⟩ := hn ci hci
    exact va_instNo hx hb hown (hts _ hl) (va_Nc.of (hN _ hc)) (ww_recv hK hI hq ha) hd (h3 p e R s m args below meth c hY H locs ls hI hL)
theorem yor_ok {t1 t2 : zP → zP} (h1 : yS l mt eh big nst D cl tys b0 X μ pc t1) (h2 : yS l mt eh big nst D cl tys b0 X μ pc t2) : yS l mt eh big nst D cl tys b0 X μ pc (zor t1 t2) := fun d K N L st w k n Q hx => hx.elim (h1 d K N L st w k n Q) (h2 d K N L st w k n Q)
theorem ycS_ok {mt0 : zMt} {nst0 : List Cond} (hst0 : ww_st nst0) (hsub : ∀ w ∈ nst0, w ∈ nst) {P0 : zP} (hP0 : ∀ (d K N μ pc : Nat) (L : zV) (st : List Value) (w : ww_W) (k n : Nat) (Q : zQ), P0 d K N μ pc L st w k n Q → zM l mt0 big nst0 D cl tys b0 d K N μ pc L st w k n Q) {μ' na index : Nat} (hd : decode (mt μ).2.1 pc = .ok (.invokestatic index, 3)) (hy : plainFor (mt0 μ').1 = true) (hg : GoodIn big (va_wsS (mt μ).1.cls index (mt0 μ').1 (zws mt0 big μ'))) (hds : (mt0 μ').1.cls ≠ "java/lang/invoke/MethodHandle" ∧ (mt0 μ').1.cls ≠ "java/lang/invoke/VarHandle" ∧ (parseMethodDescriptor (mt0 μ').1.desc).map (fun d => d.parameters.length) = some na) (hmax : (mt0 μ').2.2.1 ≤ 45) : yS l mt eh big nst D cl tys b0 X μ pc (ycS P0 (mt0 μ').2.2.1 μ' na) := by
  intro d K N L st w k n Q hx p e R s m args below meth c hY H locs ls hI hL
  obtain ⟨As, rest, rfl, h2, h3, h4, d', K', N', Q', g1, g2, g3, g4, hno, g5⟩ := hx
  obtain ⟨hx, hb, hml, hr, hts, hown, hlk, hnm, hK, hd1, hd2, hd3, hd4, hN⟩ := id hY.1
  have hsz : ls.size = (mt μ).2.2.1 := by obtain ⟨-, lv, q1, -⟩ := hL; exact q1.1
  refine z_call hI (va_runS (As := As) (rest := rest) ⟨hx, hb, hml, hown, hts⟩ ((hP0 _ _ _ _ _ _ _ _ _ _ _ g4).met hno hy h3) (va_cwS na hts hg rfl rfl rfl hds ⟨by show d' + 1 ≤ R.frames; omega, by show 8 + ((mt0 μ').2.2.1 + 11) + 64 * d' ≤ R.locals; omega⟩) (ww_preS hst0 (fun w hw => hN w (hsub w hw)) hK hI) rfl h2 hsz rfl (lv_room h4) hd ⟨by omega, by omega⟩) (fun v w' k' n' H1 locs1 hq hI1 => g5 v w' k' n' hq p e R s m args below meth c hY H1 locs1 ls hI1 hL)
theorem ycSN_ok {mt0 : zMt} {nst0 : List Cond} (hst0 : ww_st nst0) (hsub : ∀ w ∈ nst0, w ∈ nst) {P0 : zP} (hP0 : ∀ (d K N μ pc : Nat) (L : zV) (st : List Value) (w : ww_W) (k n : Nat) (Q : zQ), P0 d K N μ pc L st w k n Q → zM l mt0 big nst0 D cl tys b0 d K N μ pc L st w k n Q) {μ' na index : Nat} {host : String} (hd : decode (mt μ).2.1 pc = .ok (.invokestatic index, 3)) (hy : plainFor (mt0 μ').1 = true) (hg : GoodIn big (zws mt0 big μ')) (h0 : Cond.methodLinkNest (mt μ).1.cls index (mt0 μ').1 host ∈ nst) (h1 : Cond.initialized (mt0 μ').1.cls ∈ big) (h2 : Cond.static (mt0 μ').1 ∈ big) (hds : (mt0 μ').1.cls ≠ "java/lang/invoke/MethodHandle" ∧ (mt0 μ').1.cls ≠ "java/lang/invoke/VarHandle" ∧ (parseMethodDescriptor (mt0 μ').1.desc).map (fun d => d.parameters.length) = some na) (hmax : (mt0 μ').2.2.1 ≤ 45) : yS l mt eh big nst D cl tys b0 X μ pc (ycS P0 (mt0 μ').2.2.1 μ' na) := by
  intro d K N L st w k n Q hx p e R s m args below meth c hY H locs ls hI hL
  obtain ⟨As, rest, rfl, q2, q3, q4, d', K', N', Q', g1, g2, g3, g4, hno, g5⟩ := hx
  obtain ⟨hx, hb, hml, hr, hts, hown, hlk, hnm, hK, hd1, hd2, hd3, hd4, hN⟩ := id hY.1
  have hsz : ls.size = (mt μ).2.2.1 := by obtain ⟨-, lv, q1, -⟩ := hL; exact q1.1
  refine z_call hI (va_runSN (As := As) (rest := rest) ⟨hx, hb, hml, hown, hts⟩ ((hP0 _ _ _ _ _ _ _ _ _ _ _ g4).met hno hy q3) ⟨va_cnB na hts hg rfl rfl rfl (hN _ h0) (hts _ h1) hds ⟨by show d' + 1 ≤ R.frames; omega, by show 8 + ((mt0 μ').2.2.1 + 11) + 64 * d' ≤ R.locals; omega⟩, hts _ h2, trivial⟩ (ww_preS hst0 (fun w hw => hN w (hsub w hw)) hK hI) rfl q2 hsz rfl (lv_room q4) hd ⟨by omega, by omega⟩) (fun v w' k' n' H1 locs1 hq hI1 => g5 v w' k' n' hq p e R s m args below meth c hY H1 locs1 ls hI1 hL)
theorem ycI_ok {mt0 : zMt} {nst0 : List Cond} (hst0 : ww_st nst0) (hsub : ∀ w ∈ nst0, w ∈ nst) {P0 : zP} (hP0 : ∀ (d K N μ pc : Nat) (L : zV) (st : List Value) (w : ww_W) (k n : Nat) (Q : zQ), P0 d K N μ pc L st w k n Q → zM l mt0 big nst0 D cl tys b0 d K N μ pc L st w k n Q) {μ' na index : Nat} (hd : decode (mt μ).2.1 pc = .ok (.invokespecial index, 3)) (hy : plainFor (mt0 μ').1 = true) (hret : (mt0 μ').2.2.2 = none) (hin : (mt0 μ').1.name = "<init>") (hg : GoodIn big (zws mt0 big μ')) (h1 : Cond.initialized (mt0 μ').1.cls ∈ big) (h2 : Cond.methodLink (mt μ).1.cls index (mt0 μ').1 ∈ big) (h3 : Cond.instanceMethod (mt0 μ').1 ∈ big) (hds : (mt0 μ').1.cls ≠ "java/lang/invoke/MethodHandle" ∧ (mt0 μ').1.cls ≠ "java/lang/invoke/VarHandle" ∧ (parseMethodDescriptor (mt0 μ').1.desc).map (fun d => d.parameters.length) = some na) (hmax : (mt0 μ').2.2.1 ≤ 45) : yS l mt eh big nst D cl tys b0 X μ pc (ycI P0 (mt0 μ').2.2.1 μ' na) := by
  intro d K N L st w k n Q hx p e R s m args below meth c hY H locs ls hI hL
  obtain ⟨b, As, rest, rfl, q2, q3, q4, d', K', N', Q', g1, g2, g3, g4, hno, g5⟩ := hx
  obtain ⟨hx, hb, hml, hr, hts, hown, hlk, hnm, hK, hd1, hd2, hd3, hd4, hN⟩ := id hY.1
  have hsz : ls.size = (mt μ).2.2.1 := by obtain ⟨-, lv, q1, -⟩ := hL; exact q1.1
  refine z_call hI (va_runI (As := As) (rest := rest) (bytes := (mt0 μ').2.1) (maxL := (mt0 μ').2.2.1) ⟨hx, hb, hml, hown, hts⟩ ((hP0 _ _ _ _ _ _ _ _ _ _ _ g4).met hno hy q3) (cwI na hts hg (by unfold zws; rw [hret]) rfl rfl (hts _ h1) (hts _ h2) (hts _ h3) hin hds ⟨by show d' + 1 ≤ R.frames; omega, by show 8 + ((mt0 μ').2.2.1 + 11) + 64 * d' ≤ R.locals; omega⟩) (ww_preS hst0 (fun w hw => hN w (hsub w hw)) hK hI) rfl q2 hsz rfl (lv_room q4) hd ⟨by omega, by omega⟩) (fun v w' k' n' H1 locs1 hq hI1 => g5 v w' k' n' hq p e R s m args below meth c hY H1 locs1 ls hI1 hL)
theorem ycIN_ok {mt0 : zMt} {nst0 : List Cond} (hst0 : ww_st nst0) (hsub : ∀ w ∈ nst0, w ∈ nst) {P0 : zP} (hP0 : ∀ (d K N μ pc : Nat) (L : zV) (st : List Value) (w : ww_W) (k n : Nat) (Q : zQ), P0 d K N μ pc L st w k n Q → zM l mt0 big nst0 D cl tys b0 d K N μ pc L st w k n Q) {μ' na index : Nat} {host : String} (hd : decode (mt μ).2.1 pc = .ok (.invokespecial index, 3)) (hy : plainFor (mt0 μ').1 = true) (hret : (mt0 μ').2.2.2 = none) (hin : (mt0 μ').1.name = "<init>") (hg : GoodIn big (zws mt0 big μ')) (h0 : Cond.methodLinkNest (mt μ).1.cls index (mt0 μ').1 host ∈ nst) (h1 : Cond.initialized (mt0 μ').1.cls ∈ big) (h2 : Cond.instanceMethod (mt0 μ').1 ∈ big) (hds : (mt0 μ').1.cls ≠ "java/lang/invoke/MethodHandle" ∧ (mt0 μ').1.cls ≠ "java/lang/invoke/VarHandle" ∧ (parseMethodDescriptor (mt0 μ').1.desc).map (fun d => d.parameters.length) = some na) (hmax : (mt0 μ').2.2.1 ≤ 45) : yS l mt eh big nst D cl tys b0 X μ pc (ycI P0 (mt0 μ').2.2.1 μ' na) := by
  intro d K N L st w k n Q hx p e R s m args below meth c hY H locs ls hI hL
  obtain ⟨b, As, rest, rfl, q2, q3, q4, d', K', N', Q', g1, g2, g3, g4, hno, g5⟩ := hx
  obtain ⟨hx, hb, hml, hr, hts, hown, hlk, hnm, hK, hd1, hd2, hd3, hd4, hN⟩ := id hY.1
  have hsz : ls.size = (mt μ).2.2.1 := by obtain ⟨-, lv, q1, -⟩ := hL; exact q1.1
  refine z_call hI (va_runIN (As := As) (rest := rest) (bytes := (mt0 μ').2.1) (maxL := (mt0 μ').2.2.1) ⟨hx, hb, hml, hown, hts⟩ ((hP0 _ _ _ _ _ _ _ _ _ _ _ g4).met hno hy q3) ⟨va_cnB na hts hg (by unfold zws; rw [hret]) rfl rfl (hN _ h0) (hts _ h1) hds ⟨by show d' + 1 ≤ R.frames; omega, by show 8 + ((mt0 μ').2.2.1 + 11) + 64 * d' ≤ R.locals; omega⟩, hin, hts _ h2⟩ (ww_preS hst0 (fun w hw => hN w (hsub w hw)) hK hI) rfl q2 hsz rfl (lv_room q4) hd ⟨by omega, by omega⟩) (fun v w' k' n' H1 locs1 hq hI1 => g5 v w' k' n' hq p e R s m args below meth c hY H1 locs1 ls hI1 hL)
theorem ycV_ok {mt0 : zMt} {nst0 : List Cond} (hst0 : ww_st nst0) (hsub : ∀ w ∈ nst0, w ∈ nst) {P0 : zP} (hP0 : ∀ (d K N μ pc : Nat) (L : zV) (st : List Value) (w : ww_W) (k n : Nat) (Q : zQ), P0 d K N μ pc L st w k n Q → zM l mt0 big nst0 D cl tys b0 d K N μ pc L st w k n Q) {μ' na ci index : Nat} {q : vw_C} (hd : decode (mt μ).2.1 pc = .ok (.invokevirtual index, 3)) (hy : plainFor (mt0 μ').1 = true) (hc : cl[ci]? = some q) (hg : GoodIn big (wsV (mt μ).1.cls index q.1 (mt0 μ').1 (zws mt0 big μ'))) (hds : (mt0 μ').1.cls = q.1 ∧ (mt0 μ').1.cls ≠ "java/lang/invoke/MethodHandle" ∧ (mt0 μ').1.cls ≠ "java/lang/invoke/VarHandle" ∧ (parseMethodDescriptor (mt0 μ').1.desc).map (fun d => d.parameters.length) = some na) (hmax : (mt0 μ').2.2.1 ≤ 45) : yS l mt eh big nst D cl tys b0 X μ pc (ycV P0 (mt0 μ').2.2.1 μ' na ci) := by
  intro d K N L st w k n Q hx p e R s m args below meth c hY H locs ls hI hL
  obtain ⟨b, As, rest, fs, rfl, q2, q3, q4, q5, d', K', N', Q', g1, g2, g3, g4, hno, g5⟩ := hx
  obtain ⟨hx, hb, hml, hr, hts, hown, hlk, hnm, hK, hd1, hd2, hd3, hd4, hN⟩ := id hY.1
  have hsz : ls.size = (mt μ).2.2.1 := by obtain ⟨-, lv, q1, -⟩ := hL; exact q1.1
  refine z_call hI (va_runV (As := As) (rest := rest) ⟨hx, hb, hml, hown, hts⟩ ((hP0 _ _ _ _ _ _ _ _ _ _ _ g4).met hno hy q3) (cwV na hts hg rfl rfl rfl hds ⟨by show d' + 1 ≤ R.frames; omega, by show 8 + ((mt0 μ').2.2.1 + 11) + 64 * d' ≤ R.locals; omega⟩) (ww_preV hst0 (fun w hw => hN w (hsub w hw)) hK hI hc q5) rfl q2 hsz rfl (lv_room q4) hd ⟨by omega, by omega⟩) (fun v w' k' n' H1 locs1 hq hI1 => g5 v w' k' n' hq p e R s m args below meth c hY H1 locs1 ls hI1 hL)
theorem ycA_ok {mt0 : zMt} {nst0 : List Cond} (hst0 : ww_st nst0) (hsub : ∀ w ∈ nst0, w ∈ nst) {P0 : zP} (hP0 : ∀ (d K N μ pc : Nat) (L : zV) (st : List Value) (w : ww_W) (k n : Nat) (Q : zQ), P0 d K N μ pc L st w k n Q → zM l mt0 big nst0 D cl tys b0 d K N μ pc L st w k n Q) {μ' na ci index : Nat} {owner : String} {x : MethodName} {q : vw_C} (hd : decode (mt μ).2.1 pc = .ok (.invokevirtual index, 3)) (hy : plainFor (mt0 μ').1 = true) (hc : cl[ci]? = some q) (hg : GoodIn big (va_wsU (mt μ).1.cls index q.1 owner x (mt0 μ').1 (zws mt0 big μ'))) (hz : Cond.declares ⟨owner, x.name, x.desc⟩ ∈ nst) (hds : owner ≠ "java/lang/invoke/MethodHandle" ∧ owner ≠ "java/lang/invoke/VarHandle" ∧ (parseMethodDescriptor x.desc).map (fun d => d.parameters.length) = some na) (hmax : (mt0 μ').2.2.1 ≤ 45) : yS l mt eh big nst D cl tys b0 X μ pc (ycV P0 (mt0 μ').2.2.1 μ' na ci) := by
  intro d K N L st w k n Q hx p e R s m args below meth c hY H locs ls hI hL
  obtain ⟨b, As, rest, fs, rfl, q2, q3, q4, q5, d', K', N', Q', g1, g2, g3, g4, hno, g5⟩ := hx
  obtain ⟨hx, hb, hml, hr, hts, hown, hlk, hnm, hK, hd1, hd2, hd3, hd4, hN⟩ := id hY.1
  have hsz : ls.size = (mt μ).2.2.1 := by obtain ⟨-, lv, q1, -⟩ := hL; exact q1.1
  refine z_call hI (va_runU (As := As) (rest := rest) ⟨hx, hb, hml, hown, hts⟩ ((hP0 _ _ _ _ _ _ _ _ _ _ _ g4).met hno hy q3) (va_cwA na hts hg rfl rfl rfl (hN _ hz) hds ⟨by show d' + 1 ≤ R.frames; omega, by show 8 + ((mt0 μ').2.2.1 + 11) + 64 * d' ≤ R.locals; omega⟩) (ww_preV hst0 (fun w hw => hN w (hsub w hw)) hK hI hc q5) rfl q2 hsz rfl (lv_room q4) hd ⟨by omega, by omega⟩) (fun v w' k' n' H1 locs1 hq hI1 => g5 v w' k' n' hq p e R s m args below meth c hY H1 locs1 ls hI1 hL)
end YJ
