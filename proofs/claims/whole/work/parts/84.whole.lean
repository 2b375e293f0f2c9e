/-! THE CLAIM OUT OF ONE WALK OF THE LAW'S BODY. Your part is whole_start (and what it stands on); all else here is the same for every law, but numbers. -/
def R_law : String := "VectorLanguageLaw"
def lw_P (b : Addr) (xs : List Int32) (args : Array Value) (s : State) : Prop := args = #[.ref b] ∧ s.IntsAt b xs ∧ xs.length ≤ 2560 ∧ (Jvm.Cond.and given_1 narrow_1).before args s = true
def lw_Q (_ : Array Value) (s : State) (o : Outcome) (t : State) : Prop := o = .returned (some (.int 1)) ∧ Framed s o t [] room_1.cells room_1.slots
def lw_Z (below : List Frame) (a : Array Value) (s : State) : State → Prop := fun t => ∃ o, t.status = .running ∧ Ended t below o ∧ lw_Q a s o t
/-- what holds at the law's entry: the machine, the code, the tables' words (any of lw_tbl by 'hts w (by decide +kernel)'), the script of L ints xs at the cell b, what the Statement gives of the start (any of its parts by flat_of_before) -/
def lw_At (p : Program) (s : State) (m : MethodId) (meth : Method) (c : Code) (b L : Nat) (xs : Nat → Int32) : Prop :=
  p.tables.exec = Jvm.exec ∧ c.code = code ∧ meth.sig.returnType = ret ∧ c.maxLocals = 7 ∧ s.vm.findClass R_law = some m.cls ∧ (∀ w ∈ lw_tbl, w.before #[Value.ref b] s = true) ∧ va_X b L xs s s.heap ∧ b < s.heap.size ∧ meth.locks = false ∧ (Jvm.Cond.and given_1 narrow_1).before #[Value.ref b] s = true
theorem lw_tab {p : Program} {l : Launch} {y : MethodName} {S : Spec} {cc bytes : ByteArray} {maxL maxL' : Nat} {ret ret' : Option FieldType} {e : Env} {s s₁ : State} {m : MethodId} {args : Array Value} {below : List Frame} {meth : Method} {c : Code} (B : BodyLoose p l y S cc maxL ret e s m args below meth c s₁) (h : (Cond.code y bytes maxL' ret').before args s = true) : c.exceptionTable.toList = [] := by
  obtain ⟨meth9, c9, h1, h2, -, -, -, -, h7, -⟩ := Cond.code_spec B.named h
  cases Option.some.inj (h1.symm.trans B.method)
  cases Option.some.inj (h2.symm.trans (Stand.of_body B).code)
  rw [Array.isEmpty_iff.mp h7]
theorem ytbm {i : Nat} {w : Cond} (h : tables_1[i]? = some w) : w ∈ lw_tbl := List.mem_append_right _ (List.mem_of_getElem? h)
/-- the classes, the arrays, by what the tables say -/
theorem yK0 {s : State} {b : Nat} (hts : ∀ w ∈ lw_tbl, w.before #[Value.ref b] s = true) : ∃ (D : va_G) (dA : Nat → ClassId), va_K D zcls (ztys dA) s := by
  have hz : ∀ w ∈ zbig, w.before #[Value.ref b] s = true := fun w hw => hts w (List.mem_filter.mp hw).1
  obtain ⟨c0, i0, k0⟩ := u_known (C := RC0) (T := FC0) (N := 3) (n := 3) hz iC0 (hz (.instantiable RC0 3) (zin 27 (by decide +kernel) rfl))
  obtain ⟨c1, i1, k1⟩ := u_known (C := RC1) (T := FC1) (N := 2) (n := 2) hz iC1 (hz (.instantiable RC1 2) (zin 35 (by decide +kernel) rfl))
  obtain ⟨c2, i2, k2⟩ := u_known (C := RC2) (T := FC2) (N := 13) (n := 13) hz iC2 (hz (.instantiable RC2 13) (zin 52 (by decide +kernel) rfl))
  obtain ⟨c3, i3, k3⟩ := u_known (C := RC3) (T := FC3) (N := 5) (n := 5) hz iC3 (hz (.instantiable RC3 5) (zin 58 (by decide +kernel) rfl))
  obtain ⟨c4, i4, k4⟩ := u_known (C := RC4) (T := FC4) (N := 5) (n := 5) hz iC4 (hz (.instantiable RC4 5) (zin 86 (by decide +kernel) rfl))
  obtain ⟨c5, i5, k5⟩ := u_known (C := RC5) (T := FC5) (N := 1) (n := 1) hz iC5 (hz (.instantiable RC5 1) (zin 111 (by decide +kernel) rfl))
  obtain ⟨c6, i6, k6⟩ := u_known (C := RC6) (T := FC6) (N := 5) (n := 5) hz iC6 (hz (.instantiable RC6 5) (zin 324 (by decide +kernel) rfl))
  obtain ⟨c7, i7, k7⟩ := u_known (C := RC7) (T := FC7) (N := 4) (n := 4) hz iC7 (hz (.instantiable RC7 4) (zin 519 (by decide +kernel) rfl))
  obtain ⟨c8, i8, k8⟩ := u_known (C := RC8) (T := FC8) (N := 4) (n := 4) hz iC8 (hz (.instantiable RC8 4) (zin 549 (by decide +kernel) rfl))
  obtain ⟨c9, i9, k9⟩ := u_known (C := RC9) (T := FC9) (N := 33) (n := 33) hz iC9 (hz (.instantiable RC9 33) (zin 748 (by decide +kernel) rfl))
  obtain ⟨a0, ka0, m0, f0, g0, h0⟩ := Cond.arrayClass_spec (show (Cond.arrayClass .int).holds #[Value.ref b] s none s [] = true from hz _ (zin 109 (by decide +kernel) rfl))
  obtain ⟨a1, ka1, m1, f1, g1, h1⟩ := Cond.arrayClass_spec (show (Cond.arrayClass .long).holds #[Value.ref b] s none s [] = true from hz _ (zin 853 (by decide +kernel) rfl))
  obtain ⟨a2, ka2, m2, f2, g2, h2⟩ := Cond.arrayClass_spec (show (Cond.arrayClass .boolean).holds #[Value.ref b] s none s [] = true from hz _ (zin 854 (by decide +kernel) rfl))
  obtain ⟨m3, a3, ka3, f3, _, g3, h3, e3⟩ := Cond.arrayOver_spec (n := "VectorLanguage$Expression") (show (Cond.arrayOver (.object "VectorLanguage$Expression")).holds #[Value.ref b] s none s [] = true from hts _ (ytbm (i := 41) (by decide +kernel)))
  obtain ⟨m4, a4, ka4, f4, _, g4, h4, e4⟩ := Cond.arrayOver_spec (n := "VectorLanguage$Held") (show (Cond.arrayOver (.object "VectorLanguage$Held")).holds #[Value.ref b] s none s [] = true from hts _ (ytbm (i := 64) (by decide +kernel)))
  refine ⟨(fun k => if k = 0 then c0 else if k = 1 then c1 else if k = 2 then c2 else if k = 3 then c3 else if k = 4 then c4 else if k = 5 then c5 else if k = 6 then c6 else if k = 7 then c7 else if k = 8 then c8 else c9, fun k => if k = 0 then i0 else if k = 1 then i1 else if k = 2 then i2 else if k = 3 then i3 else if k = 4 then i4 else if k = 5 then i5 else if k = 6 then i6 else if k = 7 then i7 else if k = 8 then i8 else i9), fun k => if k = 0 then a0 else if k = 1 then a1 else if k = 2 then a2 else if k = 3 then a3 else a4, fun k q hq => ?_, fun k q hq => ?_⟩
  · match k, hq with
    | 0, hq => cases hq; exact k0
    | 1, hq => cases hq; exact k1
    | 2, hq => cases hq; exact k2
    | 3, hq => cases hq; exact k3
    | 4, hq => cases hq; exact k4
    | 5, hq => cases hq; exact k5
    | 6, hq => cases hq; exact k6
    | 7, hq => cases hq; exact k7
    | 8, hq => cases hq; exact k8
    | 9, hq => cases hq; exact k9
    | k + 10, hq => simp [zcls] at hq
  · match k, hq with
    | 0, hq => cases hq; exact ⟨fun N z => ⟨fun k h => (by cases h), ka0, g0, m0, h0⟩, f0⟩
    | 1, hq => cases hq; exact ⟨fun N z => ⟨fun k h => (by cases h), ka1, g1, m1, h1⟩, f1⟩
    | 2, hq => cases hq; exact ⟨fun N z => ⟨fun k h => (by cases h), ka2, g2, m2, h2⟩, f2⟩
    | 3, hq => cases hq; exact ⟨fun N z => ⟨fun k h => (by cases h), ka3, g3, m3, h3⟩, ka3, m3, g3, h3, f3, e3⟩
    | 4, hq => cases hq; exact ⟨fun N z => ⟨fun k h => (by cases h), ka4, g4, m4, h4⟩, ka4, m4, g4, h4, f4, e4⟩
    | k + 5, hq => simp at hq
theorem znc_of {A : Array Value} {C T : String} {s : State} (h : (Cond.not (.castable C T)).before A s = true) : va_Nw (.not (.castable C T)) s := by
  obtain ⟨c, t, h1, h2, h3⟩ := va_Nc.of h
  unfold va_Nw
  simp [Cond.before, Cond.holds, Cond.value, h1, h2, h3]
theorem yN0 {s : State} {b : Nat} (hts : ∀ w ∈ lw_tbl, w.before #[Value.ref b] s = true) (hgv : (Jvm.Cond.and given_1 narrow_1).before #[Value.ref b] s = true) : ww_N ynst s := by
  have hs := flat_of_before _ hgv
  have h_znst : ∀ w ∈ znst, va_Nw w s := by
    unfold znst
    refine za (va_Nw.of rfl (hts _ (ytbm (i := 36) (by decide +kernel)))) ?_
    refine za (va_Nw.of rfl (hts _ (ytbm (i := 87) (by decide +kernel)))) ?_
    refine za (va_Nw.of rfl (hts _ (ytbm (i := 115) (by decide +kernel)))) ?_
    refine za (va_Nw.of rfl (hts _ (ytbm (i := 118) (by decide +kernel)))) ?_
    refine za (va_Nw.of rfl (hts _ (ytbm (i := 218) (by decide +kernel)))) ?_
    refine za (va_Nw.of rfl (hts _ (ytbm (i := 523) (by decide +kernel)))) ?_
    refine za (va_Nw.of rfl (hts _ (ytbm (i := 553) (by decide +kernel)))) ?_
    refine za (va_Nw.of rfl (hts _ (ytbm (i := 498) (by decide +kernel)))) ?_
    refine za (va_Nw.of rfl (hts _ (ytbm (i := 1087) (by decide +kernel)))) ?_
    refine za (va_Nw.of rfl (hts _ (ytbm (i := 1088) (by decide +kernel)))) ?_
    refine za (va_Nw.of rfl (hts _ (ytbm (i := 1089) (by decide +kernel)))) ?_
    refine za (va_Nw.of rfl (hts _ (ytbm (i := 1090) (by decide +kernel)))) ?_
    refine za (va_Nw.of rfl (hts _ (ytbm (i := 1091) (by decide +kernel)))) ?_
    refine za (va_Nw.of rfl (hts _ (ytbm (i := 1092) (by decide +kernel)))) ?_
    refine za (va_Nw.of rfl (hts _ (ytbm (i := 1093) (by decide +kernel)))) ?_
    refine za (va_Nw.of rfl (hts _ (ytbm (i := 1094) (by decide +kernel)))) ?_
    refine za (va_Nw.of rfl (hts _ (ytbm (i := 700) (by decide +kernel)))) ?_
    refine za (show va_AO "VectorLanguage$Expression" s from va_AO.of (hts _ (ytbm (i := 41) (by decide +kernel)))) ?_
    refine za (show va_AO "VectorLanguage$Held" s from va_AO.of (hts _ (ytbm (i := 64) (by decide +kernel)))) ?_
    refine za (znc_of (hs _ (by decide +kernel))) ?_
    refine za (znc_of (hs _ (by decide +kernel))) ?_
    refine za (znc_of (hs _ (by decide +kernel))) ?_
    refine za (znc_of (hs _ (by decide +kernel))) ?_
    refine za (znc_of (hs _ (by decide +kernel))) ?_
    refine za (znc_of (hs _ (by decide +kernel))) ?_
    refine za (znc_of (hs _ (by decide +kernel))) ?_
    exact zn
  have h_yn2 : ∀ w ∈ yn2, va_Nw w s := by
    unfold yn2
    refine za (va_Nw.of rfl (hts _ (ytbm (i := 238) (by decide +kernel)))) ?_
    refine za (va_Nw.of rfl (hts _ (ytbm (i := 309) (by decide +kernel)))) ?_
    refine za (va_Nw.of rfl (hts _ (ytbm (i := 370) (by decide +kernel)))) ?_
    refine za (va_Nw.of rfl (hts _ (ytbm (i := 651) (by decide +kernel)))) ?_
    refine za (va_Nw.of rfl (hts _ (ytbm (i := 668) (by decide +kernel)))) ?_
    refine za (va_Nw.of rfl (hts _ (ytbm (i := 685) (by decide +kernel)))) ?_
    refine za (va_Nw.of rfl (hts _ (ytbm (i := 240) (by decide +kernel)))) ?_
    refine za (va_Nw.of rfl (hts _ (ytbm (i := 242) (by decide +kernel)))) ?_
    refine za (va_Nw.of rfl (hts _ (ytbm (i := 244) (by decide +kernel)))) ?_
    refine za (znc_of (hs _ (by decide +kernel))) ?_
    refine za (znc_of (hs _ (by decide +kernel))) ?_
    refine za (znc_of (hs _ (by decide +kernel))) ?_
    refine za (znc_of (hs _ (by decide +kernel))) ?_
    refine za (znc_of (hs _ (by decide +kernel))) ?_
    refine za (znc_of (hs _ (by decide +kernel))) ?_
    refine za (znc_of (hs _ (by decide +kernel))) ?_
    refine za (znc_of (hs _ (by decide +kernel))) ?_
    refine za (znc_of (hs _ (by decide +kernel))) ?_
    refine za (znc_of (hs _ (by decide +kernel))) ?_
    refine za (znc_of (hs _ (by decide +kernel))) ?_
    refine za (znc_of (hs _ (by decide +kernel))) ?_
    refine za (znc_of (hs _ (by decide +kernel))) ?_
    exact zn
  exact fun w hw => (List.mem_append.mp hw).elim (h_znst w) (h_yn2 w)
theorem yst {own tx C : String} {k : Nat} {A : Array Value} {s : State} (h1 : (Cond.stringRef own k tx).before A s = true) (h2 : (Cond.exactly (.string own k) C).before A s = true) : ∃ sa : Nat, vk_R own k tx sa s := by
  obtain ⟨a, c, cell, kk, h3, _⟩ := Cond.exactly_spec (show (Cond.exactly (.string own k) C).holds A s none s [] = true from h2)
  exact ⟨a, vk_R.of h1 h3⟩
theorem yX0 {s : State} {b L : Nat} {xs : Nat → Int32} (hts : ∀ w ∈ lw_tbl, w.before #[Value.ref b] s = true) (hgv : (Jvm.Cond.and given_1 narrow_1).before #[Value.ref b] s = true) (hX : va_X b L xs s s.heap) : yXX s.heap.size (b, L, xs) s := by
  have hs := flat_of_before _ hgv
  have hA : ∀ a : Nat, a < s.heap.size → ¬ ww_F s.heap.size a := fun a ha q => absurd ha (Nat.not_lt.mpr q)
  refine ⟨vx_Zqof (hts _ (ytbm (i := 263) (by decide +kernel))) (hts _ (ytbm (i := 10) (by decide +kernel))) (hs _ (by decide +kernel)) hA, vx_Zqof (hts _ (ytbm (i := 265) (by decide +kernel))) (hts _ (ytbm (i := 10) (by decide +kernel))) (hs _ (by decide +kernel)) hA, ?_, hX⟩
  unfold ystr
  refine za (yst (C := "java/lang/String") (hts _ (ytbm (i := 658) (by decide +kernel))) (hs _ (by decide +kernel))) ?_
  refine za (yst (C := "java/lang/String") (hts _ (ytbm (i := 665) (by decide +kernel))) (hs _ (by decide +kernel))) ?_
  refine za (yst (C := "java/lang/String") (hts _ (ytbm (i := 675) (by decide +kernel))) (hs _ (by decide +kernel))) ?_
  refine za (yst (C := "java/lang/String") (hts _ (ytbm (i := 682) (by decide +kernel))) (hs _ (by decide +kernel))) ?_
  refine za (yst (C := "java/lang/String") (hts _ (ytbm (i := 692) (by decide +kernel))) (hs _ (by decide +kernel))) ?_
  refine za (yst (C := "java/lang/String") (hts _ (ytbm (i := 280) (by decide +kernel))) (hs _ (by decide +kernel))) ?_
  refine za (yst (C := "java/lang/String") (hts _ (ytbm (i := 316) (by decide +kernel))) (hs _ (by decide +kernel))) ?_
  refine za (yst (C := "java/lang/String") (hts _ (ytbm (i := 377) (by decide +kernel))) (hs _ (by decide +kernel))) ?_
  refine za (yst (C := "java/lang/String") (hts _ (ytbm (i := 720) (by decide +kernel))) (hs _ (by decide +kernel))) ?_
  refine za (yst (C := "java/lang/String") (hts _ (ytbm (i := 721) (by decide +kernel))) (hs _ (by decide +kernel))) ?_
  refine za (yst (C := "java/lang/String") (hts _ (ytbm (i := 730) (by decide +kernel))) (hs _ (by decide +kernel))) ?_
  refine za (yst (C := "java/lang/String") (hts _ (ytbm (i := 746) (by decide +kernel))) (hs _ (by decide +kernel))) ?_
  exact zn
/-- nothing that was there before was written -/
theorem lw_new {s t : State} {L : List Loc} {k n : Nat} (h : s.sameButNew t L k n) (hL : ∀ q ∈ L, s.heap.size ≤ q.base) : s.sameButNew t [] k n := by
  obtain ⟨h1, h2, h3, h4, h5, h6⟩ := h
  refine ⟨h1, h2, h3, h4, h5, fun a c hc => ?_⟩
  obtain ⟨c', e1, e2, e3, e4⟩ := h6 a c hc
  refine ⟨c', e1, e2, e3, fun i _ => e4 i (fun hm => ?_)⟩
  have := hL _ hm
  have ha : a < s.heap.size := (Array.getElem?_eq_some_iff.mp hc).1
  exact absurd ha (Nat.not_lt.mpr this)
/-- the law, from its entry -/
theorem whole_start {p : Program} {e : Env} {s : State} {m : MethodId} {below : List Frame} {meth : Method} {c : Code} (l : Launch) (hl : l.stackTraces = false) {b L : Nat} {xs : Nat → Int32} (hL : L ≤ 2560) (htab : c.exceptionTable.toList = []) (hnm : meth.name = "law") (C0 : lw_At p s m meth c b L xs) : W p l e room_1 s m #[Value.ref b] below meth c s.heap [] 0 0 (lw_Z below #[Value.ref b] s) (entryFrame m ([Value.ref b] : List Value).toArray 7) := by
  obtain ⟨hx, hb, hr, hml, hown, hts, hX, hbl, hlocks, hgv⟩ := C0
  obtain ⟨D, dA, hK⟩ := yK0 hts
  have hM := zy_sound (D := D) (b0 := s.heap.size) (U := (b, L, xs)) hl hbl (law_start (dA := dA) (U := (b, L, xs)) (d := 180) (K := room_1.cells) (N := room_1.slots) (Q := fun r _ _ _ => r = .inl (some (.int 1))) hL (Nat.le_refl _) (by decide) (by decide) (fun _ _ _ _ _ => rfl))
  have hl0 := lv_entry ([.ref b] : List Value) (n := 7) (Nat.le_of_ble_eq_true rfl)
  rw [lg_entry_eq]
  refine W_mono (hM p e room_1 s m #[.ref b] below meth c ⟨⟨hx, hb, hml, hr, fun w hw => hts w (List.mem_filter.mp hw).1, hown, hlocks, hnm, hK, by decide, by decide, by decide, by decide, yN0 hts hgv⟩, yX0 hts hgv hX, htab⟩ s.heap [] _ ⟨fun a e h => (by cases h), va_S.rf, Nat.le_refl _⟩ (zargs_has (Nat.le_of_ble_eq_true rfl) hl0)) (fun t ht => ?_)
  obtain ⟨o, h1, h2, h3⟩ := ht
  rcases h3 with ⟨⟨⟨v, u, hv, hq, -⟩, -⟩, Lx, ⟨-, hW, hs⟩, hLx⟩ | ⟨q, -, E, ce, Lx, ⟨x, u, -, hq, -⟩, -⟩
  · cases hq
    exact ⟨o, h1, h2, hv, ⟨_, hv⟩, hW, lw_new hs hLx⟩
  · cases hq
set_option maxHeartbeats 4000000 in
theorem lw_walk (l : Launch) (hl : l.stackTraces = false) (b : Addr) (xs : List Int32) : MetFree l x (headSpec (Jvm.Cond.code x code maxLocals ret :: tables_1) room_1) (lw_P b xs) (fun _ _ _ _ _ => True) lw_Q := by
  refine MetFree.of_bodyS (code := code) (maxLocals := maxLocals) (ret := ret) (by decide) ?_ ?_
  · intro args s m h hn
    obtain ⟨meth, c, h1, h2, h3, h4, h5, h6, -, -⟩ := Cond.code_spec hn (atoms_spec (ws := Jvm.Cond.code x code maxLocals ret :: tables_1) h _ List.mem_cons_self)
    exact ⟨meth, c, h1, h2, h3, h4, h5, h6⟩
  · intro p e s m args below meth c s₁ B hml0 hP _
    obtain ⟨rfl, hx, hbd, hgv⟩ := hP
    obtain ⟨scr, harrAt, hlist, hof, hsmall⟩ := hx
    obtain ⟨hcb, hkn, -, -⟩ := State.arrayAt?_spec harrAt
    have hown : s.vm.findClass R_law = some m.cls := findClass_of_methodNamed B.named
    have hts0 : ∀ c ∈ (Jvm.Cond.code x code maxLocals ret :: tables_1), c.before #[Value.ref b] s = true := atoms_spec (ws := Jvm.Cond.code x code maxLocals ret :: tables_1) B.pre
    have hts : ∀ w ∈ lw_tbl, w.before #[Value.ref b] s = true := k2_hts_sels lw_privs (fun w hw => hts0 w (List.mem_cons_of_mem _ hw)) lw_privs_ok
    have hml : c.maxLocals = 7 := B.maxLocals_eq (hts0 _ List.mem_cons_self)
    have X₀ : Stand p l e room_1 s m #[Value.ref b] below meth c s₁ [] 0 0 := Stand.of_body B
    have hh0 : s₁.heap = s.heap := by rw [B.state]; rfl
    have hsz : scr.slots.size = xs.length := by rw [← Array.length_toList, hlist, List.length_map]
    have hval : ∀ j : Nat, j < xs.length → scr.slots[j]? = some (.int (xs.getD j 0)) := fun j hj => by
      rw [← Array.getElem?_toList, hlist]
      simp [hj]
    have hbl : b < s.heap.size := (Array.getElem?_eq_some_iff.mp hcb).1
    have hX : va_X b xs.length (fun j => xs.getD j 0) s s.heap := ⟨scr, hcb, hof, hkn, hsz, hval⟩
    have K : W p l e room_1 s m #[Value.ref b] below meth c s₁.heap [] 0 0 (lw_Z below #[Value.ref b] s) (entryFrame m ([Value.ref b] : List Value).toArray 7) := by
      rw [hh0]
      exact whole_start l hl hbd (lw_tab B (hts0 _ List.mem_cons_self)) (name_of_methodNamed B.named B.method).1 ⟨B.exec, B.bytes, B.returns, hml, hown, hts, hX, hbl, B.notSynchronized, hgv⟩
    obtain ⟨t, a1, o, b1, b2, b3⟩ := K s₁ rfl X₀
    exact ⟨t, o, a1, b1, b2, b3⟩
theorem lw_pre_spec {args : Array Value} {s : State} (h : (Jvm.Cond.and given_1 narrow_1).before args s = true) (hr : rest_1_c.before args s = true) : ∃ (b : Addr) (xs : List Int32), lw_P b xs args s := by
  have hs := flat_of_before _ h
  have hq := flat_of_before _ hr
  have hc : (Cond.count 1).before args s = true := hs _ (by decide +kernel)
  have harr : (Cond.arrayOf (.arg 0) .int).before args s = true := hs _ (by decide +kernel)
  have hle : (Cond.le (.length (.arg 0)) (.int 2560)).before args s = true := hs _ (by decide +kernel)
  have hlen : (Cond.isInt (.length (.arg 0))).before args s = true := hq _ (by decide +kernel)
  have hall : (Cond.all (.arg 0) (.isInt (.elem (.arg 0) (.index 0)))).before args s = true := hq _ (by decide +kernel)
  obtain ⟨b, xs, hb, hx⟩ := State.ints_of_pre rfl harr hlen hall
  have hsm : xs.length < 2 ^ 31 := hx.choose_spec.2.2.2
  have hev : (Term.length (.arg 0)).eval args s none [] s = some (.int xs.length.toInt32) := hx.length_eval hb
  have hv := Cond.le_ints hev (show (Term.int 2560).eval args s none [] s = some (.int 2560) from rfl)
  have hd : xs.length.toInt32 ≤ 2560 := by
    simpa [Cond.before, Cond.holds, hv] using hle
  have hN : xs.length ≤ 2560 := (Int32.ofNat_le_ofNat hsm (by decide)).mp (show Int32.ofNat xs.length ≤ Int32.ofNat 2560 from hd)
  exact ⟨b, xs, Cond.one_arg hc (show args[0]? = some (.ref b) from hb), hx, hN, h⟩
theorem lw_comes (l : Launch) (hl : l.stackTraces = false) : Comes l x (Jvm.Cond.code x code maxLocals ret :: tables_1) room_1 (fun tb e args s => Calls_1 tb e args s ∧ rest_1 tb e args s ∧ Pre_1 tb e args s)
    (fun _ _ args s o t => lw_Q args s o t) := by
  intro p e ha hc hk s m args below hf hfit hheap happ hpre
  obtain ⟨b, xs, hP⟩ := lw_pre_spec hpre.2.2 hpre.2.1
  obtain ⟨k, o, h1, h2, h3, hQ⟩ := lw_walk l hl b xs p e ha hc hk s m args below hf ((Spec.applies_iff_loose hf).mp happ).1 hP trivial
  exact ⟨k, o, h1, h2, h3, hQ⟩
theorem lw_frame {s t : State} {o : Outcome} {args : Array Value} (h : Framed s o t [] room_1.cells room_1.slots) :
    Framed s o t (fieldLocs frame_1_writes args s ++ arrayLocs frame_1_arrays args s ++ staticLocs frame_1_statics s) room_1.cells room_1.slots := h
theorem lw_limb (L : Cond) (hL : ∀ (args : Array Value) (s t : State), L.after args s (.returned (some (.int 1))) t = true) :
    ArmFor flags0 classFile x code maxLocals ret World_1 tables_1 room_1 Calls_1 rest_1 Pre_1
      (fun tb e a s o t => postC L tb e a s o t ∧ Framed s o t (fieldLocs frame_1_writes a s ++ arrayLocs frame_1_arrays a s ++ staticLocs frame_1_statics s) room_1.cells room_1.slots) := by
  intro l hfl _ _ p e ha hc hk s m args below hf hfit hheap happ hpre
  obtain ⟨k, o, h1, h2, h3, rfl, hF⟩ := lw_comes l (by unfold Launch.stackTraces; rw [hfl]; decide +kernel) p e ha hc hk s m args below hf hfit hheap happ hpre
  exact ⟨k, _, h1, h2, h3, hL args s _, lw_frame hF⟩
theorem i_vc : Claimed_1_1 ∧ Claimed_1_2 := ⟨lw_limb limb_1_1 (fun args s t => by simp [limb_1_1, Cond.after, Cond.holds, Cond.value]), lw_limb limb_1_2 (fun args s t => Cond.after_iff.mpr (by
  first | (rw [show limb_1_2 = Cond.eq .result (.int 1) from rfl, Cond.eq_ints (x := 1) (y := 1) rfl rfl]; simp; done) | (simp [limb_1_2, Cond.value, Term.eval]; done)))⟩
