/-! calls -/
def zarg : List Value → zV
  | [] => []
  | v :: vs => if v.category = 2 then some v :: none :: zarg vs else some v :: zarg vs
def zargs (nL : Nat) (As : List Value) : zV := zarg As ++ List.replicate (nL - (zarg As).length) none
theorem zarg_len : ∀ As : List Value, (zarg As).length = (lg_sl As).length
  | [] => rfl
  | v :: vs => by
    have ih := zarg_len vs
    simp only [zarg, lg_sl, List.flatMap_cons, List.length_append] at ih ⊢
    by_cases hv : v.category = 2
    · simp [hv, ih]; omega
    · simp [hv, ih]; omega
theorem zarg_at : ∀ (As : List Value) (i0 j : Nat) (v : Value), (zarg As)[j]? = some (some v) → (i0 + j, v) ∈ lv_args i0 As
  | [], i0, j, v, h => by simp [zarg] at h
  | u :: vs, i0, j, v, h => by
    by_cases hu : u.category = 2
    · simp only [zarg, hu, if_true] at h
      cases j with
      | zero =>
        simp at h
        subst h
        exact List.mem_cons_self
      | succ j =>
        cases j with
        | zero => simp at h
        | succ j =>
          have := zarg_at vs (i0 + 2) j v (by simpa using h)
          refine List.mem_cons_of_mem _ ?_
          rw [if_pos hu, show i0 + (j + 1 + 1) = i0 + 2 + j by omega]
          exact this
    · simp only [zarg, hu, if_false] at h
      cases j with
      | zero =>
        simp at h
        subst h
        exact List.mem_cons_self
      | succ j =>
        have := zarg_at vs (i0 + 1) j v (by simpa using h)
        refine List.mem_cons_of_mem _ ?_
        rw [if_neg hu, show i0 + (j + 1) = i0 + 1 + j by omega]
        exact this
theorem zargs_has {ls : Array Slot} {nL : Nat} {As : List Value} (hn : (lg_sl As).length ≤ nL) (h : lv_has ls nL (lv_args 0 As)) : zH ls nL (zargs nL As) := by
  refine ⟨?_, _, h, fun i v hi => ?_⟩
  · unfold zargs
    rw [List.length_append, List.length_replicate, zarg_len]
    omega
  · unfold zargs at hi
    by_cases hl : i < (zarg As).length
    · rw [List.getElem?_append_left hl] at hi
      have := zarg_at As 0 i v hi
      simpa using this
    · rw [List.getElem?_append_right (by omega), List.getElem?_replicate] at hi
      split at hi <;> simp at hi
section ZK
variable {l : Launch} {mt : zMt} {big nst : List Cond} {D : va_G} {cl : List vw_C} {tys : List (ClassId × FieldType)} {b0 : Nat}
abbrev zrm (d K N : Nat) : Room := { frames := d, cells := K, slots := N, locals := 64 * d }
abbrev zws (mt : zMt) (big : List Cond) (μ : Nat) : List Cond := .code (mt μ).1 (mt μ).2.1 (mt μ).2.2.1 (mt μ).2.2.2 :: big
theorem zM.met {d K N μ : Nat} {As : List Value} {w : ww_W} {Q : zQ} {sz tt : Nat} (hno : ∀ (x : Nat) (w : ww_W) (k n : Nat), ¬ Q (.inr x) w k n) (hy : plainFor (mt μ).1 = true) (hn : (lg_sl As).length ≤ (mt μ).2.2.1) (hM : zM l mt big nst D cl tys b0 d K N μ 0 (zargs (mt μ).2.2.1 As) [] w 0 0 Q) :
    Met l (mt μ).1 (zws mt big μ) (zrm d K N) (va_Pc As (ww_P nst D cl tys b0 w sz tt)) (zQc D cl tys b0 Q) K N (ww_F b0) :=
  ww_met hy hn (fun p e s m below meth c h1 h2 h3 h4 h5 h6 h7 h8 h9 h10 _ _ hN ls hl => W_mono (hM p e (zrm d K N) s m As.toArray below meth c ⟨h1, h2, h3, h4, h5, h6, h7, h8, h9, Nat.le_refl _, Nat.le_refl _, Nat.le_refl _, Nat.le_refl _, hN⟩ s.heap [] ls h10 (zargs_has hn hl)) (zMQ_to hno))
theorem z_call {p : Program} {e : Env} {R : Room} {s : State} {m : MethodId} {args : Array Value} {below : List Frame} {meth : Method} {c : Code} {H : Heap} {locs : List Loc} {k n K' N' : Nat} {Qf : State → Prop} {pc : Nat} {ls : Array Slot} {st0 rest : List Value} {a : Array Value} {Q' : zQ} {w : ww_W} (hI : ww_I D cl b0 w s.heap H locs)
    (hr : va_Run p l e R s m args below meth c H locs k n K' N' (F0 m pc ls st0) rest (zQc D cl tys b0 Q' a) (ww_F b0))
    (kk : ∀ (v : Option Value) (w' : ww_W) (k' n' : Nat) (H1 : Heap) (locs1 : List Loc), Q' (.inl v) w' k' n' → ww_I D cl b0 w' s.heap H1 locs1 → W p l e R s m args below meth c H1 locs1 (k + k') (n + n') Qf (F0 m (pc + 3) ls (v.toList ++ rest))) : W p l e R s m args below meth c H locs k n Qf (F0 m pc ls st0) := by
  refine ww_know fun k1 k2 => ?_
  intro T hT X
  obtain ⟨v, st₀, t, T', Ls, h0, X', hL, e1, e2, ⟨⟨v', u, hv, hq, hB⟩, hz, hk⟩, st⟩ := hr T hT X
  cases hv
  rw [h0] at hz hk hB
  have hI' : ww_I D cl b0 u.1 s.heap T'.heap (locs ++ Ls) := by
    refine ⟨by rw [e1]; exact hB.1.1, ⟨by rw [e1]; exact Nat.le_trans hI.2.1.1 hz, fun q g1 g2 => ?_, fun q hq => ?_⟩, hI.2.2⟩
    · rw [e1, hk q (Nat.lt_of_lt_of_le g1 hI.2.1.1) g2]
      exact hI.2.1.2.1 q g1 g2
    · rcases List.mem_append.mp hq with h | h
      · exact hI.2.1.2.2 q h
      · exact hL q h
  have hb1 : T'.heap.size ≤ H.size + u.2.1 := by rw [e1]; exact hB.2.1
  have hb2 : ww_t T'.heap ≤ ww_t H + u.2.2 := by rw [e1]; exact hB.2.2
  obtain ⟨t2, a1, b1⟩ := (ww_tight (cells := k + K') (slots := n + N') (show T'.heap.size ≤ s.heap.size + (k + u.2.1) by omega) (show ww_t T'.heap ≤ ww_t s.heap + (n + u.2.2) by omega) (kk v u.1 u.2.1 u.2.2 T'.heap (locs ++ Ls) hq hI')) T' rfl X'
  exact ⟨t2, st t2 a1, b1⟩
/-- the callee at its entry, and what is said behind it -/
def zgo (nL' μ' : Nat) (As rest : List Value) : zP → zP := fun P d K N μ pc L _ w k n Q => ∃ (d' K' N' : Nat) (Q' : zQ), d' + 1 ≤ d ∧ k + K' ≤ K ∧ n + N' ≤ N ∧ P d' K' N' μ' 0 (zargs nL' As) [] w 0 0 Q' ∧ (∀ (x : Nat) (w : ww_W) (k n : Nat), ¬ Q' (.inr x) w k n) ∧ ∀ (v : Option Value) (w' : ww_W) (k' n' : Nat), Q' (.inl v) w' k' n' → P d K N μ (pc + 3) L (v.toList ++ rest) w' (k + k') (n + n') Q
theorem zgo_mono (nL' μ' : Nat) (As rest : List Value) : zMono (zgo nL' μ' As rest) := fun _ _ h _ _ _ _ _ _ _ _ _ _ _ ⟨d', K', N', Q', h1, h2, h3, h4, hno, h5⟩ => ⟨d', K', N', Q', h1, h2, h3, h _ _ _ _ _ _ _ _ _ _ _ h4, hno, fun v w' k' n' hq => h _ _ _ _ _ _ _ _ _ _ _ (h5 v w' k' n' hq)⟩
/-- a static method: na arguments -/
def zcS (nL' μ' na : Nat) : zP → zP := fun P d K N μ pc L st w k n Q => ∃ As rest : List Value, st = As.reverse ++ rest ∧ As.length = na ∧ (lg_sl As).length ≤ nL' ∧ (rest.map fun v => v.category).sum ≤ 8 ∧ zgo nL' μ' As rest P d K N μ pc L st w k n Q
theorem zcS_mono (nL' μ' na : Nat) : zMono (zcS nL' μ' na) := fun P P' h d K N μ pc L st w k n Q ⟨As, rest, h1, h2, h3, h4, h5⟩ => ⟨As, rest, h1, h2, h3, h4, zgo_mono nL' μ' As rest P P' h d K N μ pc L st w k n Q h5⟩
theorem zcS_ok (hst : ww_st nst) {μ pc μ' na index : Nat} (hd : decode (mt μ).2.1 pc = .ok (.invokestatic index, 3)) (hy : plainFor (mt μ').1 = true) (hg : GoodIn big (va_wsS (mt μ).1.cls index (mt μ').1 (zws mt big μ'))) (hds : (mt μ').1.cls ≠ "java/lang/invoke/MethodHandle" ∧ (mt μ').1.cls ≠ "java/lang/invoke/VarHandle" ∧ (parseMethodDescriptor (mt μ').1.desc).map (fun d => d.parameters.length) = some na) (hmax : (mt μ').2.2.1 ≤ 45) : zS l mt big nst D cl tys b0 μ pc (zcS (mt μ').2.2.1 μ' na) := by
  intro d K N L st w k n Q hx p e R s m args below meth c hC H locs ls hI hL
  obtain ⟨As, rest, rfl, h2, h3, h4, d', K', N', Q', g1, g2, g3, g4, hno, g5⟩ := hx
  obtain ⟨hx, hb, hml, hr, hts, hown, hlk, hnm, hK, hd1, hd2, hd3, hd4, hN⟩ := id hC
  have hsz : ls.size = (mt μ).2.2.1 := by obtain ⟨-, lv, q1, -⟩ := hL; exact q1.1
  refine z_call hI (va_runS (As := As) (rest := rest) ⟨hx, hb, hml, hown, hts⟩ (g4.met hno hy h3) (va_cwS na hts hg rfl rfl rfl hds ⟨by show d' + 1 ≤ R.frames; omega, by show 8 + ((mt μ').2.2.1 + 11) + 64 * d' ≤ R.locals; omega⟩) (ww_preS hst hN hK hI) rfl h2 hsz rfl (lv_room h4) hd ⟨by omega, by omega⟩) (fun v w' k' n' H1 locs1 hq hI1 => g5 v w' k' n' hq p e R s m args below meth c hC H1 locs1 ls hI1 hL)
/-- a constructor -/
def zcI (nL' μ' na : Nat) : zP → zP := fun P d K N μ pc L st w k n Q => ∃ (b : Nat) (As rest : List Value), st = As.reverse ++ .ref b :: rest ∧ As.length = na ∧ (lg_sl (.ref b :: As)).length ≤ nL' ∧ (rest.map fun v => v.category).sum ≤ 8 ∧ zgo nL' μ' (.ref b :: As) rest P d K N μ pc L st w k n Q
theorem zcI_mono (nL' μ' na : Nat) : zMono (zcI nL' μ' na) := fun P P' h d K N μ pc L st w k n Q ⟨b, As, rest, h1, h2, h3, h4, h5⟩ => ⟨b, As, rest, h1, h2, h3, h4, zgo_mono nL' μ' (.ref b :: As) rest P P' h d K N μ pc L st w k n Q h5⟩
theorem zcI_ok (hst : ww_st nst) {μ pc μ' na index : Nat} (hd : decode (mt μ).2.1 pc = .ok (.invokespecial index, 3)) (hy : plainFor (mt μ').1 = true) (hret : (mt μ').2.2.2 = none) (hin : (mt μ').1.name = "<init>") (hg : GoodIn big (zws mt big μ')) (h1 : Cond.initialized (mt μ').1.cls ∈ big) (h2 : Cond.methodLink (mt μ).1.cls index (mt μ').1 ∈ big) (h3 : Cond.instanceMethod (mt μ').1 ∈ big) (hds : (mt μ').1.cls ≠ "java/lang/invoke/MethodHandle" ∧ (mt μ').1.cls ≠ "java/lang/invoke/VarHandle" ∧ (parseMethodDescriptor (mt μ').1.desc).map (fun d => d.parameters.length) = some na) (hmax : (mt μ').2.2.1 ≤ 45) : zS l mt big nst D cl tys b0 μ pc (zcI (mt μ').2.2.1 μ' na) := by
  intro d K N L st w k n Q hx p e R s m args below meth c hC H locs ls hI hL
  obtain ⟨b, As, rest, rfl, q2, q3, q4, d', K', N', Q', g1, g2, g3, g4, hno, g5⟩ := hx
  obtain ⟨hx, hb, hml, hr, hts, hown, hlk, hnm, hK, hd1, hd2, hd3, hd4, hN⟩ := id hC
  have hsz : ls.size = (mt μ).2.2.1 := by obtain ⟨-, lv, q1, -⟩ := hL; exact q1.1
  refine z_call hI (va_runI (As := As) (rest := rest) (bytes := (mt μ').2.1) (maxL := (mt μ').2.2.1) ⟨hx, hb, hml, hown, hts⟩ (g4.met hno hy q3) (cwI na hts hg (by unfold zws; rw [hret]) rfl rfl (hts _ h1) (hts _ h2) (hts _ h3) hin hds ⟨by show d' + 1 ≤ R.frames; omega, by show 8 + ((mt μ').2.2.1 + 11) + 64 * d' ≤ R.locals; omega⟩) (ww_preS hst hN hK hI) rfl q2 hsz rfl (lv_room q4) hd ⟨by omega, by omega⟩) (fun v w' k' n' H1 locs1 hq hI1 => g5 v w' k' n' hq p e R s m args below meth c hC H1 locs1 ls hI1 hL)
/-- a method of the receiver's own class (ci) -/
def zcV (nL' μ' na ci : Nat) : zP → zP := fun P d K N μ pc L st w k n Q => ∃ (b : Nat) (As rest fs : List Value), st = As.reverse ++ .ref b :: rest ∧ As.length = na ∧ (lg_sl (.ref b :: As)).length ≤ nL' ∧ (rest.map fun v => v.category).sum ≤ 8 ∧ w b = some (.inr (ci, fs)) ∧ zgo nL' μ' (.ref b :: As) rest P d K N μ pc L st w k n Q
theorem zcV_mono (nL' μ' na ci : Nat) : zMono (zcV nL' μ' na ci) := fun P P' h d K N μ pc L st w k n Q ⟨b, As, rest, fs, h1, h2, h3, h4, h5, h6⟩ => ⟨b, As, rest, fs, h1, h2, h3, h4, h5, zgo_mono nL' μ' (.ref b :: As) rest P P' h d K N μ pc L st w k n Q h6⟩
theorem zcV_ok (hst : ww_st nst) {μ pc μ' na ci index : Nat} {q : vw_C} (hd : decode (mt μ).2.1 pc = .ok (.invokevirtual index, 3)) (hy : plainFor (mt μ').1 = true) (hc : cl[ci]? = some q) (hg : GoodIn big (wsV (mt μ).1.cls index q.1 (mt μ').1 (zws mt big μ'))) (hds : (mt μ').1.cls = q.1 ∧ (mt μ').1.cls ≠ "java/lang/invoke/MethodHandle" ∧ (mt μ').1.cls ≠ "java/lang/invoke/VarHandle" ∧ (parseMethodDescriptor (mt μ').1.desc).map (fun d => d.parameters.length) = some na) (hmax : (mt μ').2.2.1 ≤ 45) : zS l mt big nst D cl tys b0 μ pc (zcV (mt μ').2.2.1 μ' na ci) := by
  intro d K N L st w k n Q hx p e R s m args below meth c hC H locs ls hI hL
  obtain ⟨b, As, rest, fs, rfl, q2, q3, q4, q5, d', K', N', Q', g1, g2, g3, g4, hno, g5⟩ := hx
  obtain ⟨hx, hb, hml, hr, hts, hown, hlk, hnm, hK, hd1, hd2, hd3, hd4, hN⟩ := id hC
  have hsz : ls.size = (mt μ).2.2.1 := by obtain ⟨-, lv, q1, -⟩ := hL; exact q1.1
  refine z_call hI (va_runV (As := As) (rest := rest) ⟨hx, hb, hml, hown, hts⟩ (g4.met hno hy q3) (cwV na hts hg rfl rfl rfl hds ⟨by show d' + 1 ≤ R.frames; omega, by show 8 + ((mt μ').2.2.1 + 11) + 64 * d' ≤ R.locals; omega⟩) (ww_preV hst hN hK hI hc q5) rfl q2 hsz rfl (lv_room q4) hd ⟨by omega, by omega⟩) (fun v w' k' n' H1 locs1 hq hI1 => g5 v w' k' n' hq p e R s m args below meth c hC H1 locs1 ls hI1 hL)
/-- Object's constructor -/
def zobj : zP → zP := fun P d K N μ pc L st w k n Q => ∃ (a : Nat) (r : List Value), st = .ref a :: r ∧ (r.map fun v => v.category).sum ≤ 8 ∧ 1 ≤ d ∧ P d K N μ (pc + 3) L r w k n Q
theorem zobj_mono : zMono zobj := fun _ _ h _ _ _ _ _ _ _ _ _ _ _ ⟨a, r, h1, h2, h3, h4⟩ => ⟨a, r, h1, h2, h3, h _ _ _ _ _ _ _ _ _ _ _ h4⟩
theorem zobj_ok {μ pc idx : Nat} (hd : decode (mt μ).2.1 pc = .ok (.invokespecial idx, 3)) (h1 : Cond.methodLink (mt μ).1.cls idx objectInit ∈ big) (h2 : Cond.instanceMethod objectInit ∈ big) (h3 : Cond.code objectInit ⟨#[0xb1]⟩ 1 none ∈ big) : zS l mt big nst D cl tys b0 μ pc zobj := by
  intro d K N L st w k n Q hx p e R s m args below meth c hC H locs ls hI hL
  obtain ⟨a, r, rfl, q2, q3, q4⟩ := hx
  obtain ⟨hx, hb, hml, hr, hts, hown, hlk, hnm, hK, hd1, hd2, hd3, hd4, hN⟩ := id hC
  have hsz : ls.size = (mt μ).2.2.1 := by obtain ⟨-, lv, q1, -⟩ := hL; exact q1.1
  exact W.objInit hx hb hown (hts _ h1) (hts _ h2) (hts _ h3) rfl (by rw [hml]; exact hsz) rfl hd (by omega) (by show 2 * 0 + _ + 12 ≤ R.locals; omega) (q4 p e R s m args below meth c hC H locs ls hI hL)
end ZK
section ZK2
variable {l : Launch} {mt : zMt} {big nst : List Cond} {D : va_G} {cl : List vw_C} {tys : List (ClassId × FieldType)} {b0 : Nat}
/-- a private static of a nest mate -/
theorem zcSN_ok (hst : ww_st nst) {μ pc μ' na index : Nat} {host : String} (hd : decode (mt μ).2.1 pc = .ok (.invokestatic index, 3)) (hy : plainFor (mt μ').1 = true) (hg : GoodIn big (zws mt big μ')) (h0 : Cond.methodLinkNest (mt μ).1.cls index (mt μ').1 host ∈ nst) (h1 : Cond.initialized (mt μ').1.cls ∈ big) (h2 : Cond.static (mt μ').1 ∈ big) (hds : (mt μ').1.cls ≠ "java/lang/invoke/MethodHandle" ∧ (mt μ').1.cls ≠ "java/lang/invoke/VarHandle" ∧ (parseMethodDescriptor (mt μ').1.desc).map (fun d => d.parameters.length) = some na) (hmax : (mt μ').2.2.1 ≤ 45) : zS l mt big nst D cl tys b0 μ pc (zcS (mt μ').2.2.1 μ' na) := by
  intro d K N L st w k n Q hx p e R s m args below meth c hC H locs ls hI hL
  obtain ⟨As, rest, rfl, q2, q3, q4, d', K', N', Q', g1, g2, g3, g4, hno, g5⟩ := hx
  obtain ⟨hx, hb, hml, hr, hts, hown, hlk, hnm, hK, hd1, hd2, hd3, hd4, hN⟩ := id hC
  have hsz : ls.size = (mt μ).2.2.1 := by obtain ⟨-, lv, q1, -⟩ := hL; exact q1.1
  refine z_call hI (va_runSN (As := As) (rest := rest) ⟨hx, hb, hml, hown, hts⟩ (g4.met hno hy q3) ⟨va_cnB na hts hg rfl rfl rfl (hN _ h0) (hts _ h1) hds ⟨by show d' + 1 ≤ R.frames; omega, by show 8 + ((mt μ').2.2.1 + 11) + 64 * d' ≤ R.locals; omega⟩, hts _ h2, trivial⟩ (ww_preS hst hN hK hI) rfl q2 hsz rfl (lv_room q4) hd ⟨by omega, by omega⟩) (fun v w' k' n' H1 locs1 hq hI1 => g5 v w' k' n' hq p e R s m args below meth c hC H1 locs1 ls hI1 hL)
/-- a private constructor of a nest mate -/
theorem zcIN_ok (hst : ww_st nst) {μ pc μ' na index : Nat} {host : String} (hd : decode (mt μ).2.1 pc = .ok (.invokespecial index, 3)) (hy : plainFor (mt μ').1 = true) (hret : (mt μ').2.2.2 = none) (hin : (mt μ').1.name = "<init>") (hg : GoodIn big (zws mt big μ')) (h0 : Cond.methodLinkNest (mt μ).1.cls index (mt μ').1 host ∈ nst) (h1 : Cond.initialized (mt μ').1.cls ∈ big) (h2 : Cond.instanceMethod (mt μ').1 ∈ big) (hds : (mt μ').1.cls ≠ "java/lang/invoke/MethodHandle" ∧ (mt μ').1.cls ≠ "java/lang/invoke/VarHandle" ∧ (parseMethodDescriptor (mt μ').1.desc).map (fun d => d.parameters.length) = some na) (hmax : (mt μ').2.2.1 ≤ 45) : zS l mt big nst D cl tys b0 μ pc (zcI (mt μ').2.2.1 μ' na) := by
  intro d K N L st w k n Q hx p e R s m args below meth c hC H locs ls hI hL
  obtain ⟨b, As, rest, rfl, q2, q3, q4, d', K', N', Q', g1, g2, g3, g4, hno, g5⟩ := hx
  obtain ⟨hx, hb, hml, hr, hts, hown, hlk, hnm, hK, hd1, hd2, hd3, hd4, hN⟩ := id hC
  have hsz : ls.size = (mt μ).2.2.1 := by obtain ⟨-, lv, q1, -⟩ := hL; exact q1.1
  refine z_call hI (va_runIN (As := As) (rest := rest) (bytes := (mt μ').2.1) (maxL := (mt μ').2.2.1) ⟨hx, hb, hml, hown, hts⟩ (g4.met hno hy q3) ⟨va_cnB na hts hg (by unfold zws; rw [hret]) rfl rfl (hN _ h0) (hts _ h1) hds ⟨by show d' + 1 ≤ R.frames; omega, by show 8 + ((mt μ').2.2.1 + 11) + 64 * d' ≤ R.locals; omega⟩, hin, hts _ h2⟩ (ww_preS hst hN hK hI) rfl q2 hsz rfl (lv_room q4) hd ⟨by omega, by omega⟩) (fun v w' k' n' H1 locs1 hq hI1 => g5 v w' k' n' hq p e R s m args below meth c hC H1 locs1 ls hI1 hL)
end ZK2
