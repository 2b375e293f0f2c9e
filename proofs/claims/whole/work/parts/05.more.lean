/-! more steps: longs, rows of booleans, casts, an overridden method -/
section ZG2
variable {big : List Cond} {own : String} {cc : ByteArray} {nL pc : Nat}
theorem zg_land (hd : decode cc pc = .ok (.land, 1)) : zg big own cc nL pc 1 (gLL (fun x y => x &&& y)) := by
  intro p l e R s m args below meth c H locs k n Qf ls L st L' st' hx hb hw hown hL hg kk
  unfold gLL at hg
  split at hg
  · cases hg; exact lv_land hx hb hd (kk ls hL)
  · cases hg
/-- a shift of a long by an int -/
def gLI (f : Int64 → Int32 → Int64) : zV → List Value → Option (zV × List Value) := fun L st => match st with
  | .int y :: .long x :: r => some (L, .long (f x y) :: r)
  | _ => none
theorem zg_lshl (hd : decode cc pc = .ok (.lshl, 1)) : zg big own cc nL pc 1 (gLI (fun x y => x <<< (y.toInt64 &&& 63))) := by
  intro p l e R s m args below meth c H locs k n Qf ls L st L' st' hx hb hw hown hL hg kk
  unfold gLI at hg
  split at hg
  · cases hg; exact lv_lshl hx hb hd rfl (kk ls hL)
  · cases hg
theorem zg_lshr (hd : decode cc pc = .ok (.lshr, 1)) : zg big own cc nL pc 1 (gLI (fun x y => x >>> (y.toInt64 &&& 63))) := by
  intro p l e R s m args below meth c H locs k n Qf ls L st L' st' hx hb hw hown hL hg kk
  unfold gLI at hg
  split at hg
  · cases hg; exact lv_lshr hx hb hd rfl (kk ls hL)
  · cases hg
end ZG2
section WW5
variable {p : Program} {l : Launch} {e : Env} {R : Room} {s : State} {m : MethodId} {args : Array Value} {below : List Frame} {meth : Method} {c : Code} {H : Heap} {locs : List Loc} {cells slots : Nat} {Q : State → Prop}
variable {cc : ByteArray} {pc : Nat} {ls : Array Slot} {rest : List Value} {D : va_G} {cl : List vw_C} {b0 : Nat} {a : Nat} {tys : List (ClassId × FieldType)} {w : ww_W} {H0 : Heap}
theorem ww_zald (hexec : p.tables.exec = Jvm.exec) (hb : c.code = cc) (hK : va_K D cl tys s) (hI : ww_I D cl b0 w H0 H locs) (t0 : Nat) {cA : ClassId} {n : Nat} {f : Nat → Int32} (ha : w a = some (.inl (cA, n, .inl f))) (ht : tys[t0]? = some (cA, .boolean)) {i : Int32} (hin : vp_in i n) (hdg : decode cc pc = .ok (.baload, 1))
    (kk : W p l e R s m args below meth c H locs cells slots Q (F0 m (pc + 1) ls (.int (f i.toNatClampNeg) :: rest))) : W p l e R s m args below meth c H locs cells slots Q (F0 m pc ls (.int i :: .ref a :: rest)) :=
  va_zald hexec hb hK (ww_one (hI.1 _ _ ha).1) 0 t0 rfl ht hin hdg kk
theorem ww_zast (hexec : p.tables.exec = Jvm.exec) (hb : c.code = cc) (hK : va_K D cl tys s) (hI : ww_I D cl b0 w H0 H locs) (t0 : Nat) {cA : ClassId} {n : Nat} {f : Nat → Int32} (ha : w a = some (.inl (cA, n, .inl f))) (ht : tys[t0]? = some (cA, .boolean)) {i : Int32} {x : Int32} (hin : vp_in i n) (hdg : decode cc pc = .ok (.bastore, 1))
    (kk : ∀ (H1 : Heap) (locs1 : List Loc), ww_I D cl b0 (va_up w a (some (.inl (cA, n, .inl (upd f i.toNatClampNeg (vp_nar .boolean x)))))) H0 H1 locs1 → W p l e R s m args below meth c H1 locs1 cells slots Q (F0 m (pc + 1) ls rest)) : W p l e R s m args below meth c H locs cells slots Q (F0 m pc ls (.int x :: .int i :: .ref a :: rest)) := by
  obtain ⟨q0, h0⟩ := hI.ix ha
  exact va_zast hexec hb hK hI.P (hI.D _) hI.2.1 q0 t0 h0 ht hin hdg (fun H1 locs1 hP _ hS => kk H1 locs1 (hI.set h0 hP hS))
theorem ww_newz (hexec : p.tables.exec = Jvm.exec) (hb : c.code = cc) (harr : (Cond.arrayClass (newarray.typeOf .boolean)).before args s = true) (hK : va_K D cl tys s) (hI : ww_I D cl b0 w H0 H locs) (t0 : Nat) {cA : ClassId} (ht : tys[t0]? = some (cA, .boolean))
    {n : Int32} {N : Nat} (hn : ¬ n < 0) (hN : n.toNatClampNeg = N) (hbytes : N * 1 ≤ 536870912) (hcells : cells + 1 ≤ R.cells) (hslots : slots + N ≤ R.slots) (hdg : decode cc pc = .ok (.newarray .boolean, 2))
    (kk : ∀ (q : Nat) (H1 : Heap), w q = none → ww_I D cl b0 (va_up w q (some (.inl (cA, N, .inl (fun _ => 0))))) H0 H1 locs →
      W p l e R s m args below meth c H1 locs (cells + 1) (slots + N) Q (F0 m (pc + 2) ls (.ref q :: rest))) : W p l e R s m args below meth c H locs cells slots Q (F0 m pc ls (.int n :: rest)) :=
  va_newa (ty := .boolean) (a0 := (N, .inl (fun _ => 0))) hexec hb harr rfl hK hI.P (hI.D _) hI.2.1 (fun q h => Nat.le_trans hI.2.2 h) (fun _ => rfl) hn hN hbytes hcells hslots hdg (fun q cB H1 hK2 hP hD hS => by
    have h1 : va_RA s cA .boolean := (hK.2 t0 _ ht).2
    have h2 : va_RA s cB .boolean := (hK2.2 tys.length (cB, .boolean) (by rw [List.getElem?_append_right (Nat.le_refl _), Nat.sub_self]; rfl)).2
    have h3 : cB = cA := Option.some.inj (Eq.trans (Eq.symm h2) h1)
    subst h3
    exact kk q H1 (ww_fresh (fun _ _ he => hI.lt he) hD) (hI.push hP hD hS))
end WW5
section ZJ2
variable {l : Launch} {mt : zMt} {big nst : List Cond} {D : va_G} {cl : List vw_C} {tys : List (ClassId × FieldType)} {b0 μ pc : Nat}
def zdvl (f : Int64 → Int64 → Int64) : zP → zP := fun P d K N μ pc L st w k n Q => ∃ (x y : Int64) (r : List Value), st = .long y :: .long x :: r ∧ ¬ y = 0 ∧ P d K N μ (pc + 1) L (.long (f x y) :: r) w k n Q
theorem zdvl_mono (f : Int64 → Int64 → Int64) : zMono (zdvl f) := fun _ _ h _ _ _ _ _ _ _ _ _ _ _ ⟨x, y, r, h1, h2, h3⟩ => ⟨x, y, r, h1, h2, h _ _ _ _ _ _ _ _ _ _ _ h3⟩
theorem zdvl_div (hd : decode (mt μ).2.1 pc = .ok (.ldiv, 1)) : zS l mt big nst D cl tys b0 μ pc (zdvl (fun x y => x / y)) := by
  intro d K N L st w k n Q hx p e R s m args below meth c hC H locs ls hI hL
  obtain ⟨x, y, r, rfl, h2, h3⟩ := hx
  exact lv_ldiv hC.1 hC.2.1 hd h2 (h3 p e R s m args below meth c hC H locs ls hI hL)
theorem zdvl_rem (hd : decode (mt μ).2.1 pc = .ok (.lrem, 1)) : zS l mt big nst D cl tys b0 μ pc (zdvl (fun x y => x - x / y * y)) := by
  intro d K N L st w k n Q hx p e R s m args below meth c hC H locs ls hI hL
  obtain ⟨x, y, r, rfl, h2, h3⟩ := hx
  exact lv_lrem hC.1 hC.2.1 hd h2 (h3 p e R s m args below meth c hC H locs ls hI hL)
def zretL : zP → zP := fun _ _ K N _ _ _ st w k n Q => ∃ x : Int64, st = [.long x] ∧ k ≤ K ∧ n ≤ N ∧ Q (.inl (some (.long x))) w k n
theorem zretL_mono : zMono zretL := fun _ _ _ _ _ _ _ _ _ _ _ _ _ _ hx => hx
theorem zretL_ok (hd : decode (mt μ).2.1 pc = .ok (.lreturn, 1)) (hr : (mt μ).2.2.2 = some .long) : zS l mt big nst D cl tys b0 μ pc zretL := by
  intro d K N L st w k n Q hx p e R s m args below meth c hC H locs ls hI hL
  obtain ⟨x, rfl, h1, h2, h3⟩ := hx
  refine ww_know fun k1 k2 => W.widen h1 h2 (W_mono ?_ (zMQ_of (a := args)))
  exact W.lret hC.1 hC.2.1 (hC.2.2.2.1.trans hr) (fun t ht hW => zQc_end hC.2.2.2.2.2.2.2.2.1 hI k1 k2 h3 ht hW) hI.2.1.2.2 hd hC.2.2.2.2.2.2.1
def zzald (tys : List (ClassId × FieldType)) : zP → zP := fun P d K N μ pc L st w k n Q => ∃ (a j : Nat) (r : List Value) (t : Nat) (cA : ClassId) (NA : Nat) (f : Nat → Int32), st = .int (nI j) :: .ref a :: r ∧ tys[t]? = some (cA, .boolean) ∧ w a = some (.inl (cA, NA, .inl f)) ∧ j < NA ∧ NA < 2 ^ 31 ∧ P d K N μ (pc + 1) L (.int (f j) :: r) w k n Q
theorem zzald_mono (tys : List (ClassId × FieldType)) : zMono (zzald tys) := fun _ _ h _ _ _ _ _ _ _ _ _ _ _ ⟨a, j, r, t, cA, NA, f, h1, h2, h3, h4, h5, h6⟩ => ⟨a, j, r, t, cA, NA, f, h1, h2, h3, h4, h5, h _ _ _ _ _ _ _ _ _ _ _ h6⟩
theorem zzald_ok (hd : decode (mt μ).2.1 pc = .ok (.baload, 1)) : zS l mt big nst D cl tys b0 μ pc (zzald tys) := by
  intro d K N L st w k n Q hx p e R s m args below meth c hC H locs ls hI hL
  obtain ⟨a, j, r, t, cA, NA, f, rfl, h2, h3, h4, h5, h6⟩ := hx
  have hk := h6 p e R s m args below meth c hC H locs ls hI hL
  refine ww_zald hC.1 hC.2.1 hC.2.2.2.2.2.2.2.2.1 hI t h3 h2 (vp_in_nI h4 h5) hd ?_
  rw [nI_clamp (Nat.lt_trans h4 h5)]
  exact hk
def zzast (tys : List (ClassId × FieldType)) : zP → zP := fun P d K N μ pc L st w k n Q => ∃ (a j : Nat) (x : Int32) (r : List Value) (t : Nat) (cA : ClassId) (NA : Nat) (f : Nat → Int32), st = .int x :: .int (nI j) :: .ref a :: r ∧ (x = 0 ∨ x = 1) ∧ tys[t]? = some (cA, .boolean) ∧ w a = some (.inl (cA, NA, .inl f)) ∧ j < NA ∧ NA < 2 ^ 31 ∧ P d K N μ (pc + 1) L r (va_up w a (some (.inl (cA, NA, .inl (upd f j x))))) k n Q
theorem zzast_mono (tys : List (ClassId × FieldType)) : zMono (zzast tys) := fun _ _ h _ _ _ _ _ _ _ _ _ _ _ ⟨a, j, x, r, t, cA, NA, f, h1, h0, h2, h3, h4, h5, h6⟩ => ⟨a, j, x, r, t, cA, NA, f, h1, h0, h2, h3, h4, h5, h _ _ _ _ _ _ _ _ _ _ _ h6⟩
theorem zzast_ok (hd : decode (mt μ).2.1 pc = .ok (.bastore, 1)) : zS l mt big nst D cl tys b0 μ pc (zzast tys) := by
  intro d K N L st w k n Q hx p e R s m args below meth c hC H locs ls hI hL
  obtain ⟨a, j, x, r, t, cA, NA, f, rfl, h0, h2, h3, h4, h5, h6⟩ := hx
  refine ww_zast hC.1 hC.2.1 hC.2.2.2.2.2.2.2.2.1 hI t h3 h2 (vp_in_nI h4 h5) hd (fun H1 locs1 hI1 => ?_)
  have hz : vp_nar .boolean x = x := by rcases h0 with rfl | rfl <;> rfl
  rw [nI_clamp (Nat.lt_trans h4 h5), hz] at hI1
  exact h6 p e R s m args below meth c hC H1 locs1 ls hI1 hL
def znewz (tys : List (ClassId × FieldType)) : zP → zP := fun P d K N μ pc L st w k n Q => ∃ (j : Nat) (r : List Value) (t : Nat) (cA : ClassId), st = .int (nI j) :: r ∧ tys[t]? = some (cA, .boolean) ∧ j < 2 ^ 20 ∧ k + 1 ≤ K ∧ n + j ≤ N ∧ ∀ q : Nat, w q = none → P d K N μ (pc + 2) L (.ref q :: r) (va_up w q (some (.inl (cA, j, .inl (fun _ => 0))))) (k + 1) (n + j) Q
theorem znewz_mono (tys : List (ClassId × FieldType)) : zMono (znewz tys) := fun _ _ h _ _ _ _ _ _ _ _ _ _ _ ⟨j, r, t, cA, h1, h2, h3, h4, h5, h6⟩ => ⟨j, r, t, cA, h1, h2, h3, h4, h5, fun q hq => h _ _ _ _ _ _ _ _ _ _ _ (h6 q hq)⟩
theorem znewz_ok (hd : decode (mt μ).2.1 pc = .ok (.newarray .boolean, 2)) (ha : Cond.arrayClass (newarray.typeOf .boolean) ∈ big) : zS l mt big nst D cl tys b0 μ pc (znewz tys) := by
  intro d K N L st w k n Q hx p e R s m args below meth c hC H locs ls hI hL
  obtain ⟨j, r, t, cA, rfl, h2, h3, h4, h5, h6⟩ := hx
  exact ww_newz hC.1 hC.2.1 (hC.2.2.2.2.1 _ ha) hC.2.2.2.2.2.2.2.2.1 hI t h2 (nI_pos (by omega)) (nI_clamp (by omega)) (by omega) (Nat.le_trans h4 hC.2.2.2.2.2.2.2.2.2.2.2.1) (Nat.le_trans h5 hC.2.2.2.2.2.2.2.2.2.2.2.2.1) hd (fun q H1 hq hI1 => h6 q hq p e R s m args below meth c hC H1 locs ls hI1 hL)
/-- a cast of null, or of an object of one of the classes ys -/
def zcast (ys : List Nat) : zP → zP := fun P d K N μ pc L st w k n Q => ∃ (v : Value) (r : List Value), st = v :: r ∧ (v = .null ∨ ∃ (a ci : Nat) (fs : List Value), v = .ref a ∧ ci ∈ ys ∧ w a = some (.inr (ci, fs))) ∧ P d K N μ (pc + 3) L st w k n Q
theorem zcast_mono (ys : List Nat) : zMono (zcast ys) := fun _ _ h _ _ _ _ _ _ _ _ _ _ _ ⟨v, r, h1, h2, h3⟩ => ⟨v, r, h1, h2, h _ _ _ _ _ _ _ _ _ _ _ h3⟩
theorem zcast_ok {ys : List Nat} {index : Nat} {nm : String} (hd : decode (mt μ).2.1 pc = .ok (.checkcast index, 3)) (hl : Cond.classLink (mt μ).1.cls index nm ∈ big) (hy : ∀ ci ∈ ys, ∃ q : vw_C, cl[ci]? = some q ∧ Cond.castable q.1 nm ∈ nst) : zS l mt big nst D cl tys b0 μ pc (zcast ys) := by
  intro d K N L st w k n Q hx p e R s m args below meth c hC H locs ls hI hL
  obtain ⟨v, r, rfl, h2, h3⟩ := hx
  obtain ⟨hx, hb, hml, hr, hts, hown, hlk, hnm, hK, hd1, hd2, hd3, hd4, hN⟩ := id hC
  have hk := h3 p e R s m args below meth c hC H locs ls hI hL
  rcases h2 with rfl | ⟨a, ci, fs, rfl, hci, ha⟩
  · exact lv_castN hx hb hd hk
  · obtain ⟨q, hq, hc⟩ := hy ci hci
    exact va_castY hx hb hown (hts _ hl) (hN _ hc) (ww_recv hK hI hq ha) hd hk
/-- is it of the class: yes for the classes ys, no for the classes ns and for null -/
def zinst (ys ns : List Nat) : zP → zP := fun P d K N μ pc L st w k n Q => ∃ (v : Value) (r : List Value), st = v :: r ∧ ((v = .null ∧ P d K N μ (pc + 3) L (.int 0 :: r) w k n Q) ∨ (∃ (a ci : Nat) (fs : List Value), v = .ref a ∧ ci ∈ ys ∧ w a = some (.inr (ci, fs)) ∧ P d K N μ (pc + 3) L (.int 1 :: r) w k n Q) ∨ (∃ (a ci : Nat) (fs : List Value), v = .ref a ∧ ci ∈ ns ∧ w a = some (.inr (ci, fs)) ∧ P d K N μ (pc + 3) L (.int 0 :: r) w k n Q))
theorem zinst_mono (ys ns : List Nat) : zMono (zinst ys ns) := fun _ _ h _ _ _ _ _ _ _ _ _ _ _ ⟨v, r, h1, h2⟩ => ⟨v, r, h1, by
  rcases h2 with ⟨a1, a2⟩ | ⟨a, ci, fs, a1, a2, a3, a4⟩ | ⟨a, ci, fs, a1, a2, a3, a4⟩
  · exact Or.inl ⟨a1, h _ _ _ _ _ _ _ _ _ _ _ a2⟩
  · exact Or.inr (Or.inl ⟨a, ci, fs, a1, a2, a3, h _ _ _ _ _ _ _ _ _ _ _ a4⟩)
  · exact Or.inr (Or.inr ⟨a, ci, fs, a1, a2, a3, h _ _ _ _ _ _ _ _ _ _ _ a4⟩)⟩
theorem zinst_ok {ys ns : List Nat} {index : Nat} {nm : String} (hd : decode (mt μ).2.1 pc = .ok (.instanceof index, 3)) (hl : Cond.classLink (mt μ).1.cls index nm ∈ big) (hy : ∀ ci ∈ ys, ∃ q : vw_C, cl[ci]? = some q ∧ Cond.castable q.1 nm ∈ nst) (hn : ∀ ci ∈ ns, ∃ q : vw_C, cl[ci]? = some q ∧ Cond.not (.castable q.1 nm) ∈ nst) : zS l mt big nst D cl tys b0 μ pc (zinst ys ns) := by
  intro d K N L st w k n Q hx p e R s m args below meth c hC H locs ls hI hL
  obtain ⟨v, r, rfl, h2⟩ := hx
  obtain ⟨hx, hb, hml, hr, hts, hown, hlk, hnm, hK, hd1, hd2, hd3, hd4, hN⟩ := id hC
  rcases h2 with ⟨rfl, h3⟩ | ⟨a, ci, fs, rfl, hci, ha, h3⟩ | ⟨a, ci, fs, rfl, hci, ha, h3⟩
  · exact lv_instN hx hb hd (h3 p e R s m args below meth c hC H locs ls hI hL)
  · obtain ⟨q, hq, hc⟩ := hy ci hci
    exact va_instY hx hb hown (hts _ hl) (hN _ hc) (ww_recv hK hI hq ha) hd (h3 p e R s m args below meth c hC H locs ls hI hL)
  · obtain ⟨q, hq, hc⟩ := hn ci hci
    exact va_instNo hx hb hown (hts _ hl) (va_Nc.of (hN _ hc)) (ww_recv hK hI hq ha) hd (h3 p e R s m args below meth c hC H locs ls hI hL)
/-- a call that names an abstract method of owner; the receiver's class ci has its own -/
theorem zcA_ok (hst : ww_st nst) {μ' na ci index : Nat} {owner : String} {x : MethodName} {q : vw_C} (hd : decode (mt μ).2.1 pc = .ok (.invokevirtual index, 3)) (hy : plainFor (mt μ').1 = true) (hc : cl[ci]? = some q) (hg : GoodIn big (va_wsU (mt μ).1.cls index q.1 owner x (mt μ').1 (zws mt big μ'))) (hz : Cond.declares ⟨owner, x.name, x.desc⟩ ∈ nst) (hds : owner ≠ "java/lang/invoke/MethodHandle" ∧ owner ≠ "java/lang/invoke/VarHandle" ∧ (parseMethodDescriptor x.desc).map (fun d => d.parameters.length) = some na) (hmax : (mt μ').2.2.1 ≤ 45) : zS l mt big nst D cl tys b0 μ pc (zcV (mt μ').2.2.1 μ' na ci) := by
  intro d K N L st w k n Q hx p e R s m args below meth c hC H locs ls hI hL
  obtain ⟨b, As, rest, fs, rfl, q2, q3, q4, q5, d', K', N', Q', g1, g2, g3, g4, hno, g5⟩ := hx
  obtain ⟨hx, hb, hml, hr, hts, hown, hlk, hnm, hK, hd1, hd2, hd3, hd4, hN⟩ := id hC
  have hsz : ls.size = (mt μ).2.2.1 := by obtain ⟨-, lv, q1, -⟩ := hL; exact q1.1
  refine z_call hI (va_runU (As := As) (rest := rest) ⟨hx, hb, hml, hown, hts⟩ (g4.met hno hy q3) (va_cwA na hts hg rfl rfl rfl (hN _ hz) hds ⟨by show d' + 1 ≤ R.frames; omega, by show 8 + ((mt μ').2.2.1 + 11) + 64 * d' ≤ R.locals; omega⟩) (ww_preV hst hN hK hI hc q5) rfl q2 hsz rfl (lv_room q4) hd ⟨by omega, by omega⟩) (fun v w' k' n' H1 locs1 hq hI1 => g5 v w' k' n' hq p e R s m args below meth c hC H1 locs1 ls hI1 hL)
/-- one of two steps: an abstract method is called, and the receiver's class decides -/
def zor (t1 t2 : zP → zP) : zP → zP := fun P d K N μ pc L st w k n Q => t1 P d K N μ pc L st w k n Q ∨ t2 P d K N μ pc L st w k n Q
theorem zor_mono {t1 t2 : zP → zP} (h1 : zMono t1) (h2 : zMono t2) : zMono (zor t1 t2) := fun P P' h d K N μ pc L st w k n Q hx => hx.elim (fun q => Or.inl (h1 P P' h d K N μ pc L st w k n Q q)) (fun q => Or.inr (h2 P P' h d K N μ pc L st w k n Q q))
theorem zor_ok {t1 t2 : zP → zP} (h1 : zS l mt big nst D cl tys b0 μ pc t1) (h2 : zS l mt big nst D cl tys b0 μ pc t2) : zS l mt big nst D cl tys b0 μ pc (zor t1 t2) := fun d K N L st w k n Q hx => hx.elim (h1 d K N L st w k n Q) (h2 d K N L st w k n Q)
/-- Math.max, Math.abs -/
def zmax : zP → zP := fun P d K N μ pc L st w k n Q => ∃ (x y : Int32) (r : List Value), st = .int y :: .int x :: r ∧ (r.map fun v => v.category).sum ≤ 8 ∧ 1 ≤ d ∧ k ≤ K ∧ n ≤ N ∧ P d K N μ (pc + 3) L (.int (if x < y then y else x) :: r) w k n Q
theorem zmax_mono : zMono zmax := fun _ _ h _ _ _ _ _ _ _ _ _ _ _ ⟨x, y, r, h1, h2, h3, h4, h5, h6⟩ => ⟨x, y, r, h1, h2, h3, h4, h5, h _ _ _ _ _ _ _ _ _ _ _ h6⟩
theorem zmax_ok {index : Nat} (hd : decode (mt μ).2.1 pc = .ok (.invokestatic index, 3)) (h1 : Cond.methodLink (mt μ).1.cls index Lib.Math.max.name ∈ big) (h2 : Cond.static Lib.Math.max.name ∈ big) (h3 : Cond.initialized "java/lang/Math" ∈ big) (h4 : Cond.code Lib.Math.max.name Lib.Math.max.code 2 (some .int) ∈ big) : zS l mt big nst D cl tys b0 μ pc zmax := by
  intro d K N L st w k n Q hx p e R s m args below meth c hC H locs ls hI hL
  obtain ⟨x, y, r, rfl, q2, q3, q4, q5, q6⟩ := hx
  obtain ⟨hx, hb, hml, hr, hts, hown, hlk, hnm, hK, hd1, hd2, hd3, hd4, hN⟩ := id hC
  have hsz : ls.size = (mt μ).2.2.1 := by obtain ⟨-, lv, q1, -⟩ := hL; exact q1.1
  exact va_mmax hx hb (hml.trans hsz.symm) hown (hts _ h1) (hts _ h2) (hts _ h3) (hts _ h4) (by omega) (by omega) (by omega) (by omega) hd (q6 p e R s m args below meth c hC H locs ls hI hL)
def zabs : zP → zP := fun P d K N μ pc L st w k n Q => ∃ (x : Int32) (r : List Value), st = .int x :: r ∧ (r.map fun v => v.category).sum ≤ 8 ∧ 1 ≤ d ∧ k ≤ K ∧ n ≤ N ∧ P d K N μ (pc + 3) L (.int (if 0 ≤ x then x else 0 - x) :: r) w k n Q
theorem zabs_mono : zMono zabs := fun _ _ h _ _ _ _ _ _ _ _ _ _ _ ⟨x, r, h1, h2, h3, h4, h5, h6⟩ => ⟨x, r, h1, h2, h3, h4, h5, h _ _ _ _ _ _ _ _ _ _ _ h6⟩
theorem zabs_ok {index : Nat} (hd : decode (mt μ).2.1 pc = .ok (.invokestatic index, 3)) (h1 : Cond.methodLink (mt μ).1.cls index Lib.Math.abs.name ∈ big) (h2 : Cond.static Lib.Math.abs.name ∈ big) (h3 : Cond.initialized "java/lang/Math" ∈ big) (h4 : Cond.code Lib.Math.abs.name Lib.Math.abs.code 1 (some .int) ∈ big) : zS l mt big nst D cl tys b0 μ pc zabs := by
  intro d K N L st w k n Q hx p e R s m args below meth c hC H locs ls hI hL
  obtain ⟨x, r, rfl, q2, q3, q4, q5, q6⟩ := hx
  obtain ⟨hx, hb, hml, hr, hts, hown, hlk, hnm, hK, hd1, hd2, hd3, hd4, hN⟩ := id hC
  have hsz : ls.size = (mt μ).2.2.1 := by obtain ⟨-, lv, q1, -⟩ := hL; exact q1.1
  exact va_mabs hx hb (hml.trans hsz.symm) hown (hts _ h1) (hts _ h2) (hts _ h3) (hts _ h4) (by omega) (by omega) (by omega) (by omega) hd (q6 p e R s m args below meth c hC H locs ls hI hL)
end ZJ2
