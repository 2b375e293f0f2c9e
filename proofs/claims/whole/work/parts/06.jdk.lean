/-! System.arraycopy of ints; an int row's clone() -/
section WW6
variable {p : Program} {l : Launch} {e : Env} {R : Room} {s : State} {m : MethodId} {args : Array Value} {below : List Frame} {meth : Method} {c : Code} {H : Heap} {locs : List Loc} {cells slots : Nat} {Q : State → Prop}
variable {cc : ByteArray} {pc : Nat} {ls : Array Slot} {rest : List Value} {D : va_G} {cl : List vw_C} {b0 : Nat} {a : Nat} {tys : List (ClassId × FieldType)} {w : ww_W} {H0 : Heap}
theorem ww_clone (hexec : p.tables.exec = Jvm.exec) (hb : c.code = cc) (hml : c.maxLocals = ls.size) {own : String} {index : Nat} (hown : s.vm.findClass own = some m.cls)
    (hlink : (Cond.methodLink own index ⟨"[I", "clone", "()Ljava/lang/Object;"⟩).before args s = true) (hsame : (Cond.sameMethod "[I" "java/lang/Object" "clone" "()Ljava/lang/Object;").before args s = true)
    (hnat : (Cond.native ⟨"java/lang/Object", "clone", "()Ljava/lang/Object;"⟩).before args s = true) (hinst : (Cond.instanceMethod ⟨"java/lang/Object", "clone", "()Ljava/lang/Object;"⟩).before args s = true)
    (hsel : (Cond.selects "[I" ⟨"[I", "clone", "()Ljava/lang/Object;"⟩ ⟨"java/lang/Object", "clone", "()Ljava/lang/Object;"⟩).before args s = true) (hcl : va_Nw (.castable "[I" "java/lang/Cloneable") s)
    (hK : va_K D cl tys s) (hI : ww_I D cl b0 w H0 H locs) (t0 : Nat) {cA : ClassId} {n : Nat} {f : Nat → Int32} (ha : w a = some (.inl (cA, n, .inl f))) (ht : tys[t0]? = some (cA, .int))
    (hframes : 1 ≤ R.frames) (hlocals : (rest.map fun v => v.category).sum + 14 ≤ R.locals) (hcells : cells + 1 ≤ R.cells) (hslots : slots + n ≤ R.slots) (hdg : decode cc pc = .ok (.invokevirtual index, 3))
    (kk : ∀ (q : Nat) (H1 : Heap), w q = none → ww_I D cl b0 (va_up w q (some (.inl (cA, n, .inl f)))) H0 H1 locs →
      W p l e R s m args below meth c H1 locs (cells + 1) (slots + n) Q (F0 m (pc + 3) ls (.ref q :: rest))) : W p l e R s m args below meth c H locs cells slots Q (F0 m pc ls (.ref a :: rest)) := by
  obtain ⟨q0, h0⟩ := hI.ix ha
  refine va_clone hexec hb hml hown hlink hsame hnat hinst hsel hcl hK hI.P (hI.D _) hI.2.1 (fun q h => Nat.le_trans hI.2.2 h) q0 t0 h0 ht (va_nm_int (hK.2 t0 _ ht).2) (fun i v hv => ?_) hframes hlocals hcells hslots hdg (fun q H1 _ hP hD hS => kk q H1 (ww_fresh (fun _ _ he => hI.lt he) hD) (hI.push hP hD hS))
  have hlt : i < n := by
    have := (Array.getElem?_eq_some_iff.mp hv).1
    rw [vp_cell_i, arrV_size] at this
    exact this
  rw [vp_cell_i, arrV_read _ _ hlt] at hv
  cases hv
  rfl
end WW6
section ZJ3
variable {l : Launch} {mt : zMt} {big nst : List Cond} {D : va_G} {cl : List vw_C} {tys : List (ClassId × FieldType)} {b0 μ pc : Nat}
def zclone (tys : List (ClassId × FieldType)) : zP → zP := fun P d K N μ pc L st w k n Q => ∃ (a : Nat) (r : List Value) (t : Nat) (cA : ClassId) (NA : Nat) (f : Nat → Int32), st = .ref a :: r ∧ (r.map fun v => v.category).sum ≤ 8 ∧ 1 ≤ d ∧ tys[t]? = some (cA, .int) ∧ w a = some (.inl (cA, NA, .inl f)) ∧ k + 1 ≤ K ∧ n + NA ≤ N ∧ ∀ q : Nat, w q = none → P d K N μ (pc + 3) L (.ref q :: r) (va_up w q (some (.inl (cA, NA, .inl f)))) (k + 1) (n + NA) Q
theorem zclone_mono (tys : List (ClassId × FieldType)) : zMono (zclone tys) := fun _ _ h _ _ _ _ _ _ _ _ _ _ _ ⟨a, r, t, cA, NA, f, h1, h2, h3, h4, h5, h6, h7, h8⟩ => ⟨a, r, t, cA, NA, f, h1, h2, h3, h4, h5, h6, h7, fun q hq => h _ _ _ _ _ _ _ _ _ _ _ (h8 q hq)⟩
theorem zclone_ok {index : Nat} (hd : decode (mt μ).2.1 pc = .ok (.invokevirtual index, 3)) (h1 : Cond.methodLink (mt μ).1.cls index ⟨"[I", "clone", "()Ljava/lang/Object;"⟩ ∈ big) (h2 : Cond.sameMethod "[I" "java/lang/Object" "clone" "()Ljava/lang/Object;" ∈ big) (h3 : Cond.native ⟨"java/lang/Object", "clone", "()Ljava/lang/Object;"⟩ ∈ big) (h4 : Cond.instanceMethod ⟨"java/lang/Object", "clone", "()Ljava/lang/Object;"⟩ ∈ big) (h5 : Cond.selects "[I" ⟨"[I", "clone", "()Ljava/lang/Object;"⟩ ⟨"java/lang/Object", "clone", "()Ljava/lang/Object;"⟩ ∈ big) (h6 : Cond.castable "[I" "java/lang/Cloneable" ∈ nst) : zS l mt big nst D cl tys b0 μ pc (zclone tys) := by
  intro d K N L st w k n Q hx p e R s m args below meth c hC H locs ls hI hL
  obtain ⟨a, r, t, cA, NA, f, rfl, q2, q3, q4, q5, q6, q7, q8⟩ := hx
  obtain ⟨hx, hb, hml, hr, hts, hown, hlk, hnm, hK, hd1, hd2, hd3, hd4, hN⟩ := id hC
  have hsz : ls.size = (mt μ).2.2.1 := by obtain ⟨-, lv, q1, -⟩ := hL; exact q1.1
  exact ww_clone hx hb (hml.trans hsz.symm) hown (hts _ h1) (hts _ h2) (hts _ h3) (hts _ h4) (hts _ h5) (hN _ h6) hK hI t q5 q4 (by omega) (by omega) (by omega) (by omega) hd (fun q H1 hq hI1 => q8 q hq p e R s m args below meth c hC H1 locs ls hI1 hL)
def zcopy (tys : List (ClassId × FieldType)) : zP → zP := fun P d K N μ pc L st w k n Q => ∃ (a a0 sp dp j : Nat) (r : List Value) (t : Nat) (cA : ClassId) (n0 n1 : Nat) (f g : Nat → Int32), st = .int (nI j) :: .int (nI dp) :: .ref a :: .int (nI sp) :: .ref a0 :: r ∧ (r.map fun v => v.category).sum ≤ 8 ∧ 1 ≤ d ∧ tys[t]? = some (cA, .int) ∧ w a0 = some (.inl (cA, n0, .inl f)) ∧ w a = some (.inl (cA, n1, .inl g)) ∧ sp + j ≤ n0 ∧ dp + j ≤ n1 ∧ n0 < 2 ^ 31 ∧ n1 < 2 ^ 31 ∧ P d K N μ (pc + 3) L r (va_up w a (some (.inl (cA, n1, .inl (va_cpy f g sp dp j))))) k n Q
theorem zcopy_mono (tys : List (ClassId × FieldType)) : zMono (zcopy tys) := fun _ _ h _ _ _ _ _ _ _ _ _ _ _ ⟨a, a0, sp, dp, j, r, t, cA, n0, n1, f, g, h1, h2, h3, h4, h5, h6, h7, h8, h9, h10, h11⟩ => ⟨a, a0, sp, dp, j, r, t, cA, n0, n1, f, g, h1, h2, h3, h4, h5, h6, h7, h8, h9, h10, h _ _ _ _ _ _ _ _ _ _ _ h11⟩
theorem zcopy_ok {index : Nat} (hd : decode (mt μ).2.1 pc = .ok (.invokestatic index, 3)) (h1 : Cond.methodLink (mt μ).1.cls index arraycopyName ∈ big) (h2 : Cond.native arraycopyName ∈ big) (h3 : Cond.static arraycopyName ∈ big) (h4 : Cond.initialized "java/lang/System" ∈ big) (hnw : nativeFrameWords "java/lang/System" "arraycopy" 5 + 11 ≤ 56) : zS l mt big nst D cl tys b0 μ pc (zcopy tys) := by
  intro d K N L st w k n Q hx p e R s m args below meth c hC H locs ls hI hL
  obtain ⟨a, a0, sp, dp, j, r, t, cA, n0, n1, f, g, rfl, q2, q3, q4, q5, q6, q7, q8, q9, q10, q11⟩ := hx
  obtain ⟨hx, hb, hml, hr, hts, hown, hlk, hnm, hK, hd1, hd2, hd3, hd4, hN⟩ := id hC
  have hsz : ls.size = (mt μ).2.2.1 := by obtain ⟨-, lv, q1, -⟩ := hL; exact q1.1
  refine ww_copyi hx hb (hml.trans hsz.symm) hown (hts _ h1) (hts _ h2) (hts _ h3) (hts _ h4) hK hI t q5 q6 q4 (nI_pos (by omega)) (nI_pos (by omega)) (nI_pos (by omega)) (by rw [nI_clamp (by omega), nI_clamp (by omega)]; exact q7) (by rw [nI_clamp (by omega), nI_clamp (by omega)]; exact q8) (by omega) (by omega) hd (fun H1 locs1 hI1 => ?_)
  rw [nI_clamp (show sp < 2 ^ 31 by omega), nI_clamp (show dp < 2 ^ 31 by omega), nI_clamp (show j < 2 ^ 31 by omega)] at hI1
  exact q11 p e R s m args below meth c hC H1 locs1 ls hI1 hL
/-- a cast of a row of ints to what it is -/
def zcastI (tys : List (ClassId × FieldType)) : zP → zP := fun P d K N μ pc L st w k n Q => ∃ (a : Nat) (r : List Value) (t : Nat) (cA : ClassId) (x : vp_A), st = .ref a :: r ∧ tys[t]? = some (cA, .int) ∧ w a = some (.inl (cA, x)) ∧ P d K N μ (pc + 3) L st w k n Q
theorem zcastI_mono (tys : List (ClassId × FieldType)) : zMono (zcastI tys) := fun _ _ h _ _ _ _ _ _ _ _ _ _ _ ⟨a, r, t, cA, x, h1, h2, h3, h4⟩ => ⟨a, r, t, cA, x, h1, h2, h3, h _ _ _ _ _ _ _ _ _ _ _ h4⟩
theorem zcastI_ok {index : Nat} (hd : decode (mt μ).2.1 pc = .ok (.checkcast index, 3)) (hl : Cond.classLink (mt μ).1.cls index "[I" ∈ big) : zS l mt big nst D cl tys b0 μ pc (zcastI tys) := by
  intro d K N L st w k n Q hx p e R s m args below meth c hC H locs ls hI hL
  obtain ⟨a, r, t, cA, x, rfl, h2, h3, h4⟩ := hx
  obtain ⟨hx, hb, hml, hr, hts, hown, hlk, hnm, hK, hd1, hd2, hd3, hd4, hN⟩ := id hC
  exact va_castA hx hb hown (hts _ hl) (ww_one (hI.1 _ _ h3).1) 0 rfl (va_nm_int (hK.2 t _ h2).2) hd (h4 p e R s m args below meth c hC H locs ls hI hL)
end ZJ3
