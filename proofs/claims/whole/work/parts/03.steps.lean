/-! branches, switches -/
def zb (f : List Value → Option (Prop × List Value)) (tgt : Nat) : zP → zP := fun P d K N μ pc L st w k n Q => ∃ (φ : Prop) (st' : List Value), f st = some (φ, st') ∧ (φ → P d K N μ tgt L st' w k n Q) ∧ (¬ φ → P d K N μ (pc + 3) L st' w k n Q)
theorem zb_mono (f : List Value → Option (Prop × List Value)) (tgt : Nat) : zMono (zb f tgt) := fun _ _ h _ _ _ _ _ _ _ _ _ _ _ ⟨φ, st', h1, h2, h3⟩ => ⟨φ, st', h1, fun x => h _ _ _ _ _ _ _ _ _ _ _ (h2 x), fun x => h _ _ _ _ _ _ _ _ _ _ _ (h3 x)⟩
def zbg (cc : ByteArray) (pc tgt : Nat) (f : List Value → Option (Prop × List Value)) : Prop :=
  ∀ (p : Program) (l : Launch) (e : Env) (R : Room) (s : State) (m : MethodId) (args : Array Value) (below : List Frame) (meth : Method) (c : Code) (H : Heap) (locs : List Loc) (k n : Nat) (Qf : State → Prop) (ls : Array Slot) (st : List Value) (φ : Prop) (st' : List Value),
    p.tables.exec = Jvm.exec → c.code = cc → f st = some (φ, st') →
    (φ → W p l e R s m args below meth c H locs k n Qf (F0 m tgt ls st')) → (¬ φ → W p l e R s m args below meth c H locs k n Qf (F0 m (pc + 3) ls st')) → W p l e R s m args below meth c H locs k n Qf (F0 m pc ls st)
theorem zb_ok {l : Launch} {mt : zMt} {big nst : List Cond} {D : va_G} {cl : List vw_C} {tys : List (ClassId × FieldType)} {b0 μ pc tgt : Nat} {f : List Value → Option (Prop × List Value)} (h : zbg (mt μ).2.1 pc tgt f) : zS l mt big nst D cl tys b0 μ pc (zb f tgt) := by
  intro d K N L st w k n Q hx p e R s m args below meth c hC H locs ls hI hL
  obtain ⟨φ, st', hg, h1, h2⟩ := hx
  exact h p l e R s m args below meth c H locs k n _ ls st φ st' hC.1 hC.2.1 hg (fun x => h1 x p e R s m args below meth c hC H locs ls hI hL) (fun x => h2 x p e R s m args below meth c hC H locs ls hI hL)
def c1 (φ : Int32 → Prop) : List Value → Option (Prop × List Value) := fun st => match st with
  | .int x :: r => some (φ x, r)
  | _ => none
def c2 (φ : Int32 → Int32 → Prop) : List Value → Option (Prop × List Value) := fun st => match st with
  | .int y :: .int x :: r => some (φ x y, r)
  | _ => none
section ZB
variable {cc : ByteArray} {pc tgt : Nat} {off : Int}
theorem zb_eq (hd : decode cc pc = .ok (.ifCond .eq off, 3)) (ht : (pc : Int) + off = (tgt : Int)) : zbg cc pc tgt (c1 (fun x => x = 0)) := by
  intro p l e R s m args below meth c H locs k n Qf ls st φ st' hx hb hg h1 h2
  unfold c1 at hg
  split at hg
  · cases hg; exact lv_if_eq hx hb hd ht h1 h2
  · cases hg
theorem zb_ne (hd : decode cc pc = .ok (.ifCond .ne off, 3)) (ht : (pc : Int) + off = (tgt : Int)) : zbg cc pc tgt (c1 (fun x => ¬ x = 0)) := by
  intro p l e R s m args below meth c H locs k n Qf ls st φ st' hx hb hg h1 h2
  unfold c1 at hg
  split at hg
  · cases hg; exact lv_if_ne hx hb hd ht h1 (fun q => h2 (fun z => z q))
  · cases hg
theorem zb_lt (hd : decode cc pc = .ok (.ifCond .lt off, 3)) (ht : (pc : Int) + off = (tgt : Int)) : zbg cc pc tgt (c1 (fun x => x < 0)) := by
  intro p l e R s m args below meth c H locs k n Qf ls st φ st' hx hb hg h1 h2
  unfold c1 at hg
  split at hg
  · cases hg; exact lv_if_lt hx hb hd ht h1 h2
  · cases hg
theorem zb_ge (hd : decode cc pc = .ok (.ifCond .ge off, 3)) (ht : (pc : Int) + off = (tgt : Int)) : zbg cc pc tgt (c1 (fun x => 0 ≤ x)) := by
  intro p l e R s m args below meth c H locs k n Qf ls st φ st' hx hb hg h1 h2
  unfold c1 at hg
  split at hg
  · cases hg; exact lv_if_ge hx hb hd ht h1 h2
  · cases hg
theorem zb_gt (hd : decode cc pc = .ok (.ifCond .gt off, 3)) (ht : (pc : Int) + off = (tgt : Int)) : zbg cc pc tgt (c1 (fun x => 0 < x)) := by
  intro p l e R s m args below meth c H locs k n Qf ls st φ st' hx hb hg h1 h2
  unfold c1 at hg
  split at hg
  · cases hg; exact lv_if_gt hx hb hd ht h1 h2
  · cases hg
theorem zb_le (hd : decode cc pc = .ok (.ifCond .le off, 3)) (ht : (pc : Int) + off = (tgt : Int)) : zbg cc pc tgt (c1 (fun x => x ≤ 0)) := by
  intro p l e R s m args below meth c H locs k n Qf ls st φ st' hx hb hg h1 h2
  unfold c1 at hg
  split at hg
  · cases hg; exact lv_if_le hx hb hd ht h1 h2
  · cases hg
theorem zb_ieq (hd : decode cc pc = .ok (.if_icmp .eq off, 3)) (ht : (pc : Int) + off = (tgt : Int)) : zbg cc pc tgt (c2 (fun x y => x = y)) := by
  intro p l e R s m args below meth c H locs k n Qf ls st φ st' hx hb hg h1 h2
  unfold c2 at hg
  split at hg
  · cases hg; exact lv_icmp_eq hx hb hd ht h1 h2
  · cases hg
theorem zb_ine (hd : decode cc pc = .ok (.if_icmp .ne off, 3)) (ht : (pc : Int) + off = (tgt : Int)) : zbg cc pc tgt (c2 (fun x y => ¬ x = y)) := by
  intro p l e R s m args below meth c H locs k n Qf ls st φ st' hx hb hg h1 h2
  unfold c2 at hg
  split at hg
  · cases hg; exact lv_icmp_ne hx hb hd ht h1 (fun q => h2 (fun z => z q))
  · cases hg
theorem zb_ilt (hd : decode cc pc = .ok (.if_icmp .lt off, 3)) (ht : (pc : Int) + off = (tgt : Int)) : zbg cc pc tgt (c2 (fun x y => x < y)) := by
  intro p l e R s m args below meth c H locs k n Qf ls st φ st' hx hb hg h1 h2
  unfold c2 at hg
  split at hg
  · cases hg; exact lv_icmp_lt hx hb hd ht h1 h2
  · cases hg
theorem zb_ige (hd : decode cc pc = .ok (.if_icmp .ge off, 3)) (ht : (pc : Int) + off = (tgt : Int)) : zbg cc pc tgt (c2 (fun x y => y ≤ x)) := by
  intro p l e R s m args below meth c H locs k n Qf ls st φ st' hx hb hg h1 h2
  unfold c2 at hg
  split at hg
  · cases hg; exact lv_icmp_ge hx hb hd ht h1 h2
  · cases hg
theorem zb_igt (hd : decode cc pc = .ok (.if_icmp .gt off, 3)) (ht : (pc : Int) + off = (tgt : Int)) : zbg cc pc tgt (c2 (fun x y => y < x)) := by
  intro p l e R s m args below meth c H locs k n Qf ls st φ st' hx hb hg h1 h2
  unfold c2 at hg
  split at hg
  · cases hg; exact lv_icmp_gt hx hb hd ht h1 h2
  · cases hg
theorem zb_ile (hd : decode cc pc = .ok (.if_icmp .le off, 3)) (ht : (pc : Int) + off = (tgt : Int)) : zbg cc pc tgt (c2 (fun x y => x ≤ y)) := by
  intro p l e R s m args below meth c H locs k n Qf ls st φ st' hx hb hg h1 h2
  unfold c2 at hg
  split at hg
  · cases hg; exact lv_icmp_le hx hb hd ht h1 h2
  · cases hg
/-- null or not -/
def cN : List Value → Option (Prop × List Value) := fun st => match st with
  | .null :: r => some (True, r)
  | .ref _ :: r => some (False, r)
  | _ => none
def cNN : List Value → Option (Prop × List Value) := fun st => match st with
  | .null :: r => some (False, r)
  | .ref _ :: r => some (True, r)
  | _ => none
theorem zb_null (hd : decode cc pc = .ok (.ifnull off, 3)) (ht : (pc : Int) + off = (tgt : Int)) : zbg cc pc tgt cN := by
  intro p l e R s m args below meth c H locs k n Qf ls st φ st' hx hb hg h1 h2
  unfold cN at hg
  split at hg
  · cases hg; exact lv_ifnullN hx hb hd ht (h1 trivial)
  · cases hg; exact lv_ifnull hx hb hd (h2 (fun q => q))
  · cases hg
theorem zb_nonnull (hd : decode cc pc = .ok (.ifnonnull off, 3)) (ht : (pc : Int) + off = (tgt : Int)) : zbg cc pc tgt cNN := by
  intro p l e R s m args below meth c H locs k n Qf ls st φ st' hx hb hg h1 h2
  unfold cNN at hg
  split at hg
  · cases hg; exact lv_ifnonnullN hx hb hd (h2 (fun q => q))
  · cases hg; exact lv_ifnonnull hx hb hd ht (h1 trivial)
  · cases hg
/-- the same object -/
def zrf (v : Value) : Option (Option Nat) := match v with
  | .null => some none
  | .ref a => some (some a)
  | _ => none
theorem zrf_rf {v : Value} {r : Option Nat} (h : zrf v = some r) : v = va_rf r := by
  cases v <;> first | (cases h; rfl) | cases h
def cA (eq : Bool) : List Value → Option (Prop × List Value) := fun st => match st with
  | y :: x :: r => match zrf y, zrf x with
    | some b, some a => some ((if eq = true then a = b else ¬ a = b), r)
    | _, _ => none
  | _ => none
theorem zb_aeq (hd : decode cc pc = .ok (.if_acmp .eq off, 3)) (ht : (pc : Int) + off = (tgt : Int)) : zbg cc pc tgt (cA true) := by
  intro p l e R s m args below meth c H locs k n Qf ls st φ st' hx hb hg h1 h2
  unfold cA at hg
  split at hg
  · split at hg
    · rename_i b a hb1 ha1
      cases hg
      rw [zrf_rf hb1, zrf_rf ha1]
      exact lv_acmp_eq hx hb hd ht h1 h2
    · cases hg
  · cases hg
theorem zb_ane (hd : decode cc pc = .ok (.if_acmp .ne off, 3)) (ht : (pc : Int) + off = (tgt : Int)) : zbg cc pc tgt (cA false) := by
  intro p l e R s m args below meth c H locs k n Qf ls st φ st' hx hb hg h1 h2
  unfold cA at hg
  split at hg
  · split at hg
    · rename_i b a hb1 ha1
      cases hg
      rw [zrf_rf hb1, zrf_rf ha1]
      exact lv_acmp_ne hx hb hd ht (fun q => h1 (by simpa using q)) (fun q => h2 (by simpa using q))
    · cases hg
  · cases hg
end ZB
def zj (tgt : Nat) : zP → zP := fun P d K N μ _ L st w k n Q => P d K N μ tgt L st w k n Q
theorem zj_mono (tgt : Nat) : zMono (zj tgt) := fun _ _ h _ _ _ _ _ _ _ _ _ _ _ hx => h _ _ _ _ _ _ _ _ _ _ _ hx
section ZJ
variable {l : Launch} {mt : zMt} {big nst : List Cond} {D : va_G} {cl : List vw_C} {tys : List (ClassId × FieldType)} {b0 μ pc : Nat}
theorem zj_ok {tgt : Nat} {off : Int} (hd : decode (mt μ).2.1 pc = .ok (.goto off, 3)) (ht : (pc : Int) + off = (tgt : Int)) : zS l mt big nst D cl tys b0 μ pc (zj tgt) := by
  intro d K N L st w k n Q hx p e R s m args below meth c hC H locs ls hI hL
  exact lv_goto hC.1 hC.2.1 hd ht (hx p e R s m args below meth c hC H locs ls hI hL)
/-- a switch: the target that belongs to the number, else the other one -/
def zswt (cs : List (Int × Nat)) (dflt : Nat) (x : Int) : Nat := match cs with
  | [] => dflt
  | (a, t) :: r => if x = a then t else zswt r dflt x
def zsw (cs : List (Int × Nat)) (dflt : Nat) : zP → zP := fun P d K N μ _ L st w k n Q => ∃ (x : Int32) (r : List Value) (t : Nat), st = .int x :: r ∧ zswt cs dflt x.toInt = t ∧ P d K N μ t L r w k n Q
theorem zsw_mono (cs : List (Int × Nat)) (dflt : Nat) : zMono (zsw cs dflt) := fun _ _ h _ _ _ _ _ _ _ _ _ _ _ ⟨x, r, t, h1, h2, h3⟩ => ⟨x, r, t, h1, h2, h _ _ _ _ _ _ _ _ _ _ _ h3⟩
theorem zswt_look (pc : Nat) : ∀ (ps : List (Int × Int)) (cs : List (Int × Nat)) (off : Int) (dflt : Nat), ps.map (fun q => (q.1, (pc : Int) + q.2)) = cs.map (fun q => (q.1, (q.2 : Int))) → (pc : Int) + off = (dflt : Int) → ∀ x : Int, (pc : Int) + Op.lookupswitch.offset ps off x = (zswt cs dflt x : Int)
  | [], [], off, dflt, _, h0, x => by simpa [Op.lookupswitch.offset, zswt] using h0
  | [], _ :: _, _, _, h, _, _ => by simp at h
  | _ :: _, [], _, _, h, _, _ => by simp at h
  | (a, o) :: ps, (b, t) :: cs, off, dflt, h, h0, x => by
    simp only [List.map_cons, List.cons.injEq, Prod.mk.injEq] at h
    obtain ⟨⟨h1, h2⟩, h3⟩ := h
    subst h1
    rw [Op.lookupswitch.offset_cons]
    by_cases hx : x = a
    · subst hx
      simp [zswt, h2]
    · rw [if_neg (by first | exact hx | exact fun q => hx q.symm)]
      simp only [zswt, hx, if_false]
      exact zswt_look pc ps cs off dflt h3 h0 x
theorem zsw_look {cs : List (Int × Nat)} {dflt len : Nat} {off : Int} {ps : Array (Int × Int)} (hd : decode (mt μ).2.1 pc = .ok (.lookupswitch off ps, len)) (hp : (ps.toList.zip (ps.toList.drop 1)).all (fun (a, next) => a.1 < next.1) = true) (hc : ps.toList.map (fun q => (q.1, (pc : Int) + q.2)) = cs.map (fun q => (q.1, (q.2 : Int)))) (h0 : (pc : Int) + off = (dflt : Int)) : zS l mt big nst D cl tys b0 μ pc (zsw cs dflt) := by
  intro d K N L st w k n Q hx p e R s m args below meth c hC H locs ls hI hL
  obtain ⟨x, r, t, rfl, rfl, h3⟩ := hx
  exact lv_lookup hC.1 hC.2.1 hd hp rfl (zswt_look pc ps.toList cs off dflt hc h0 x.toInt) (h3 p e R s m args below meth c hC H locs ls hI hL)
theorem zswt_tab (pc : Nat) : ∀ (offs : List Int) (lo : Int) (cs : List (Int × Nat)) (dflt : Nat), (offs.zipIdx.map (fun q => (lo + q.2, (pc : Int) + q.1))) = cs.map (fun q => (q.1, (q.2 : Int))) → ∀ (x : Int), (∀ j : Nat, x = lo + j → ∀ o, offs[j]? = some o → (pc : Int) + o = (zswt cs dflt x : Int)) ∧ ((x < lo ∨ lo + offs.length ≤ x) → zswt cs dflt x = dflt) := by
  intro offs
  suffices h : ∀ (offs : List Int) (lo : Int) (k0 : Nat) (cs : List (Int × Nat)) (dflt : Nat), ((offs.zipIdx k0).map (fun q => (lo + q.2, (pc : Int) + q.1))) = cs.map (fun q => (q.1, (q.2 : Int))) → ∀ (x : Int), (∀ j : Nat, x = lo + k0 + j → ∀ o, offs[j]? = some o → (pc : Int) + o = (zswt cs dflt x : Int)) ∧ ((x < lo + k0 ∨ lo + k0 + offs.length ≤ x) → zswt cs dflt x = dflt) by
    intro lo cs dflt hc x
    have := h offs lo 0 cs dflt hc x
    simpa using this
  intro offs
  induction offs with
  | nil =>
    intro lo k0 cs dflt hc x
    cases cs with
    | nil => exact ⟨fun j _ o ho => by simp at ho, fun _ => rfl⟩
    | cons a b => simp at hc
  | cons o0 offs ih =>
    intro lo k0 cs dflt hc x
    cases cs with
    | nil => simp at hc
    | cons a cs =>
      obtain ⟨a1, a2⟩ := a
      simp only [List.zipIdx_cons, List.map_cons, List.cons.injEq, Prod.mk.injEq] at hc
      obtain ⟨⟨h1, h2⟩, h3⟩ := hc
      obtain ⟨i1, i2⟩ := ih lo (k0 + 1) cs dflt h3 x
      constructor
      · intro j hj o ho
        cases j with
        | zero =>
          simp at ho
          subst ho
          have : x = a1 := by rw [← h1]; simpa using hj
          simp [zswt, this, h2]
        | succ j =>
          have hne : ¬ x = a1 := by rw [← h1]; omega
          simp only [zswt, hne, if_false]
          exact i1 j (by push_cast at hj ⊢; omega) o (by simpa using ho)
      · intro hx
        have hne : ¬ x = a1 := by rw [← h1]; simp only [List.length_cons] at hx; push_cast at hx; omega
        simp only [zswt, hne, if_false]
        exact i2 (by simp only [List.length_cons] at hx; push_cast at hx ⊢; omega)
theorem zsw_tab {cs : List (Int × Nat)} {dflt len : Nat} {off lo hi : Int} {offs : Array Int} (hd : decode (mt μ).2.1 pc = .ok (.tableswitch off lo hi offs, len)) (hh : hi = lo + (offs.toList.length : Int) - 1) (hc : (offs.toList.zipIdx.map (fun q => (lo + q.2, (pc : Int) + q.1))) = cs.map (fun q => (q.1, (q.2 : Int)))) (h0 : (pc : Int) + off = (dflt : Int)) : zS l mt big nst D cl tys b0 μ pc (zsw cs dflt) := by
  intro d K N L st w k n Q hx p e R s m args below meth c hC H locs ls hI hL
  obtain ⟨x, r, t, rfl, rfl, h3⟩ := hx
  obtain ⟨t1, t2⟩ := zswt_tab pc offs.toList lo cs dflt hc x.toInt
  have hk := h3 p e R s m args below meth c hC H locs ls hI hL
  by_cases hout : x.toInt < lo ∨ hi < x.toInt
  · rw [t2 (by rcases hout with h | h; exact Or.inl h; exact Or.inr (by omega))] at hk
    exact lv_tableOut hC.1 hC.2.1 hd hout h0 hk
  · have h1 : ¬ x.toInt < lo := fun q => hout (Or.inl q)
    have h2 : ¬ hi < x.toInt := fun q => hout (Or.inr q)
    have hj : (x.toInt - lo).toNat < offs.toList.length := by omega
    have ho : offs.toList[(x.toInt - lo).toNat]? = some offs.toList[(x.toInt - lo).toNat] := List.getElem?_eq_getElem hj
    refine lv_tableIn hC.1 hC.2.1 hd h1 h2 (by rw [← Array.getElem?_toList]; exact ho) (t1 _ (by omega) _ ho) hk
/-- division: not by 0 -/
def zdv (f : Int32 → Int32 → Int32) : zP → zP := fun P d K N μ pc L st w k n Q => ∃ (x y : Int32) (r : List Value), st = .int y :: .int x :: r ∧ ¬ y = 0 ∧ P d K N μ (pc + 1) L (.int (f x y) :: r) w k n Q
theorem zdv_mono (f : Int32 → Int32 → Int32) : zMono (zdv f) := fun _ _ h _ _ _ _ _ _ _ _ _ _ _ ⟨x, y, r, h1, h2, h3⟩ => ⟨x, y, r, h1, h2, h _ _ _ _ _ _ _ _ _ _ _ h3⟩
theorem zdv_div (hd : decode (mt μ).2.1 pc = .ok (.idiv, 1)) : zS l mt big nst D cl tys b0 μ pc (zdv (fun x y => x / y)) := by
  intro d K N L st w k n Q hx p e R s m args below meth c hC H locs ls hI hL
  obtain ⟨x, y, r, rfl, h2, h3⟩ := hx
  exact lv_idiv hC.1 hC.2.1 hd h2 (h3 p e R s m args below meth c hC H locs ls hI hL)
theorem zdv_rem (hd : decode (mt μ).2.1 pc = .ok (.irem, 1)) : zS l mt big nst D cl tys b0 μ pc (zdv (fun x y => x - x / y * y)) := by
  intro d K N L st w k n Q hx p e R s m args below meth c hC H locs ls hI hL
  obtain ⟨x, y, r, rfl, h2, h3⟩ := hx
  exact lv_irem hC.1 hC.2.1 hd h2 (h3 p e R s m args below meth c hC H locs ls hI hL)
/-! fields -/
def zget (ci kf : Nat) : zP → zP := fun P d K N μ pc L st w k n Q => ∃ (a : Nat) (r : List Value) (fs : List Value) (v : Value), st = .ref a :: r ∧ w a = some (.inr (ci, fs)) ∧ fs[kf]? = some v ∧ P d K N μ (pc + 3) L (v :: r) w k n Q
theorem zget_mono (ci kf : Nat) : zMono (zget ci kf) := fun _ _ h _ _ _ _ _ _ _ _ _ _ _ ⟨a, r, fs, v, h1, h2, h3, h4⟩ => ⟨a, r, fs, v, h1, h2, h3, h _ _ _ _ _ _ _ _ _ _ _ h4⟩
theorem zget_ok {ci kf index NN : Nat} {C ref : String} {T : u_T} (hd : decode (mt μ).2.1 pc = .ok (.getfield index, 3)) (hc : cl[ci]? = some (C, T, NN)) (hin : ∀ w ∈ u_ws C T NN, w ∈ big) (hk : kf < NN) (hl : Cond.fieldLink (mt μ).1.cls index ref (T kf).2.1 (T kf).2.2.1 ∈ big) (hsame : (T kf).1 = ref) : zS l mt big nst D cl tys b0 μ pc (zget ci kf) := by
  intro d K N L st w k n Q hx p e R s m args below meth c hC H locs ls hI hL
  obtain ⟨a, r, fs, v, rfl, h2, h3, h4⟩ := hx
  exact ww_get hC.1 hC.2.1 hC.2.2.2.2.1 hin hC.2.2.2.2.2.1 hC.2.2.2.2.2.2.2.2.1 hI h2 hc kf hk (hC.2.2.2.2.1 _ hl) (fun x hx => by rw [← hsame]; exact hx) h3 hd (h4 p e R s m args below meth c hC H locs ls hI hL)
/-- may v lie in a field of this type -/
def zfit (ty : FieldType) (v : Value) : Prop := narrow ty v = v ∧ fits ty v = true
def zput (ty : FieldType) (ci kf : Nat) : zP → zP := fun P d K N μ pc L st w k n Q => ∃ (a : Nat) (v : Value) (r : List Value) (fs : List Value), st = v :: .ref a :: r ∧ w a = some (.inr (ci, fs)) ∧ kf < fs.length ∧ zfit ty v ∧ P d K N μ (pc + 3) L r (va_up w a (some (.inr (ci, fs.set kf v)))) k n Q
theorem zput_mono (ty : FieldType) (ci kf : Nat) : zMono (zput ty ci kf) := fun _ _ h _ _ _ _ _ _ _ _ _ _ _ ⟨a, v, r, fs, h1, h2, h3, h4, h5⟩ => ⟨a, v, r, fs, h1, h2, h3, h4, h _ _ _ _ _ _ _ _ _ _ _ h5⟩
theorem zput_ok {ty : FieldType} {ci kf index NN : Nat} {C ref : String} {T : u_T} (ty0 : Nat → FieldType) (hd : decode (mt μ).2.1 pc = .ok (.putfield index, 3)) (hc : cl[ci]? = some (C, T, NN)) (hin : ∀ w ∈ u_ws C T NN, w ∈ big) (hty : ∀ k, k < NN → parseFieldDescriptor (T k).2.2.1 = some (ty0 k)) (hnm : ∀ a, a < NN → ∀ b, b < NN → a ≠ b → (T a).2.1 ≠ (T b).2.1) (hk : kf < NN) (hl : Cond.fieldLink (mt μ).1.cls index ref (T kf).2.1 (T kf).2.2.1 ∈ big) (hsame : (T kf).1 = ref) (hfin : (T kf).2.2.2 = false ∨ ((T kf).2.2.2 = true ∧ (mt μ).1.name = "<init>" ∧ (T kf).1 = (mt μ).1.cls)) (ht : ty0 kf = ty) : zS l mt big nst D cl tys b0 μ pc (zput ty ci kf) := by
  intro d K N L st w k n Q hx p e R s m args below meth c hC H locs ls hI hL
  obtain ⟨a, v, r, fs, rfl, h2, h3, h4, h5⟩ := hx
  have hdd : parseFieldDescriptor (T kf).2.2.1 = some ty := by rw [← ht]; exact hty kf hk
  rcases hfin with hf | ⟨hf, hi, ho⟩
  · exact ww_put hC.1 hC.2.1 hC.2.2.2.2.1 hin ty0 hty hnm hC.2.2.2.2.2.1 hC.2.2.2.2.2.2.2.2.1 hI h2 hc kf hk (hC.2.2.2.2.1 _ hl) (fun x hx => by rw [← hsame]; exact hx) hf hdd h4.1 h4.2 h3 hd (fun H1 locs1 hI1 => h5 p e R s m args below meth c hC H1 locs1 ls hI1 hL)
  · exact ww_putF hC.1 hC.2.1 hC.2.2.2.2.1 hin ty0 hty hnm hC.2.2.2.2.2.1 hC.2.2.2.2.2.2.2.2.1 hI h2 hc kf hk (hC.2.2.2.2.1 _ hl) (fun x hx => by rw [← hsame]; exact hx) hf (hC.2.2.2.2.2.2.2.1.trans hi) ho hdd h4.1 h4.2 h3 hd (fun H1 locs1 hI1 => h5 p e R s m args below meth c hC H1 locs1 ls hI1 hL)
/-! new objects -/
def znew (ci NN : Nat) (fs : List Value) : zP → zP := fun P d K N μ pc L st w k n Q => k + 1 ≤ K ∧ n + NN ≤ N ∧ ∀ q : Nat, w q = none → P d K N μ (pc + 3) L (.ref q :: st) (va_up w q (some (.inr (ci, fs)))) (k + 1) (n + NN) Q
theorem znew_mono (ci NN : Nat) (fs : List Value) : zMono (znew ci NN fs) := fun _ _ h _ _ _ _ _ _ _ _ _ _ _ ⟨h1, h2, h3⟩ => ⟨h1, h2, fun q hq => h _ _ _ _ _ _ _ _ _ _ _ (h3 q hq)⟩
theorem znew_ok {ci NN index : Nat} {fs : List Value} {C : String} {T : u_T} (ty0 : Nat → FieldType) (hd : decode (mt μ).2.1 pc = .ok (.new index, 3)) (hc : cl[ci]? = some (C, T, NN)) (hin : ∀ w ∈ u_ws C T NN, w ∈ big) (hty : ∀ k, k < NN → parseFieldDescriptor (T k).2.2.1 = some (ty0 k)) (hl : Cond.classLink (mt μ).1.cls index C ∈ big) (hi : Cond.instantiable C NN ∈ big) (hz : Cond.initialized C ∈ big) (hfs : ∀ j, j < NN → defaultValue (ty0 j) = vp_V fs j) : zS l mt big nst D cl tys b0 μ pc (znew ci NN fs) := by
  intro d K N L st w k n Q hx p e R s m args below meth c hC H locs ls hI hL
  obtain ⟨h1, h2, h3⟩ := hx
  exact ww_new hC.1 hC.2.1 hC.2.2.2.2.1 hin ty0 hty hC.2.2.2.2.2.1 (hC.2.2.2.2.1 _ hl) (hC.2.2.2.2.1 _ hi) (hC.2.2.2.2.1 _ hz) hC.2.2.2.2.2.2.2.2.1 hI hc hfs (Nat.le_trans h1 hC.2.2.2.2.2.2.2.2.2.2.2.1) (Nat.le_trans h2 hC.2.2.2.2.2.2.2.2.2.2.2.2.1) hd (fun q H1 hq hI1 => h3 q hq p e R s m args below meth c hC H1 locs ls hI1 hL)
/-! arrays: t names the array's class by its place in tys -/
def zalen (tys : List (ClassId × FieldType)) : zP → zP := fun P d K N μ pc L st w k n Q => ∃ (a : Nat) (r : List Value) (t : Nat) (cA : ClassId) (ty : FieldType) (x : vp_A), st = .ref a :: r ∧ tys[t]? = some (cA, ty) ∧ w a = some (.inl (cA, x)) ∧ P d K N μ (pc + 1) L (.int (nI x.1) :: r) w k n Q
theorem zalen_mono (tys : List (ClassId × FieldType)) : zMono (zalen tys) := fun _ _ h _ _ _ _ _ _ _ _ _ _ _ ⟨a, r, t, cA, ty, x, h1, h2, h3, h4⟩ => ⟨a, r, t, cA, ty, x, h1, h2, h3, h _ _ _ _ _ _ _ _ _ _ _ h4⟩
theorem zalen_ok (hd : decode (mt μ).2.1 pc = .ok (.arraylength, 1)) : zS l mt big nst D cl tys b0 μ pc (zalen tys) := by
  intro d K N L st w k n Q hx p e R s m args below meth c hC H locs ls hI hL
  obtain ⟨a, r, t, cA, ty, x, rfl, h2, h3, h4⟩ := hx
  exact ww_alen hC.1 hC.2.1 hC.2.2.2.2.2.2.2.2.1 hI t h3 h2 rfl hd (h4 p e R s m args below meth c hC H locs ls hI hL)
def ziald (tys : List (ClassId × FieldType)) : zP → zP := fun P d K N μ pc L st w k n Q => ∃ (a j : Nat) (r : List Value) (t : Nat) (cA : ClassId) (NA : Nat) (f : Nat → Int32), st = .int (nI j) :: .ref a :: r ∧ tys[t]? = some (cA, .int) ∧ w a = some (.inl (cA, NA, .inl f)) ∧ j < NA ∧ NA < 2 ^ 31 ∧ P d K N μ (pc + 1) L (.int (f j) :: r) w k n Q
theorem ziald_mono (tys : List (ClassId × FieldType)) : zMono (ziald tys) := fun _ _ h _ _ _ _ _ _ _ _ _ _ _ ⟨a, j, r, t, cA, NA, f, h1, h2, h3, h4, h5, h6⟩ => ⟨a, j, r, t, cA, NA, f, h1, h2, h3, h4, h5, h _ _ _ _ _ _ _ _ _ _ _ h6⟩
theorem ziald_ok (hd : decode (mt μ).2.1 pc = .ok (.iaload, 1)) : zS l mt big nst D cl tys b0 μ pc (ziald tys) := by
  intro d K N L st w k n Q hx p e R s m args below meth c hC H locs ls hI hL
  obtain ⟨a, j, r, t, cA, NA, f, rfl, h2, h3, h4, h5, h6⟩ := hx
  have hk := h6 p e R s m args below meth c hC H locs ls hI hL
  refine ww_iald hC.1 hC.2.1 hC.2.2.2.2.2.2.2.2.1 hI t h3 h2 (vp_in_nI h4 h5) hd ?_
  rw [nI_clamp (Nat.lt_trans h4 h5)]
  exact hk
def ziast (tys : List (ClassId × FieldType)) : zP → zP := fun P d K N μ pc L st w k n Q => ∃ (a j : Nat) (x : Int32) (r : List Value) (t : Nat) (cA : ClassId) (NA : Nat) (f : Nat → Int32), st = .int x :: .int (nI j) :: .ref a :: r ∧ tys[t]? = some (cA, .int) ∧ w a = some (.inl (cA, NA, .inl f)) ∧ j < NA ∧ NA < 2 ^ 31 ∧ P d K N μ (pc + 1) L r (va_up w a (some (.inl (cA, NA, .inl (upd f j x))))) k n Q
theorem ziast_mono (tys : List (ClassId × FieldType)) : zMono (ziast tys) := fun _ _ h _ _ _ _ _ _ _ _ _ _ _ ⟨a, j, x, r, t, cA, NA, f, h1, h2, h3, h4, h5, h6⟩ => ⟨a, j, x, r, t, cA, NA, f, h1, h2, h3, h4, h5, h _ _ _ _ _ _ _ _ _ _ _ h6⟩
theorem ziast_ok (hd : decode (mt μ).2.1 pc = .ok (.iastore, 1)) : zS l mt big nst D cl tys b0 μ pc (ziast tys) := by
  intro d K N L st w k n Q hx p e R s m args below meth c hC H locs ls hI hL
  obtain ⟨a, j, x, r, t, cA, NA, f, rfl, h2, h3, h4, h5, h6⟩ := hx
  refine ww_iast hC.1 hC.2.1 hC.2.2.2.2.2.2.2.2.1 hI t h3 h2 (vp_in_nI h4 h5) hd (fun H1 locs1 hI1 => ?_)
  rw [nI_clamp (Nat.lt_trans h4 h5)] at hI1
  exact h6 p e R s m args below meth c hC H1 locs1 ls hI1 hL
def zlald (tys : List (ClassId × FieldType)) : zP → zP := fun P d K N μ pc L st w k n Q => ∃ (a j : Nat) (r : List Value) (t : Nat) (cA : ClassId) (NA : Nat) (f : Nat → Int64), st = .int (nI j) :: .ref a :: r ∧ tys[t]? = some (cA, .long) ∧ w a = some (.inl (cA, NA, .inr (.inl f))) ∧ j < NA ∧ NA < 2 ^ 31 ∧ P d K N μ (pc + 1) L (.long (f j) :: r) w k n Q
theorem zlald_mono (tys : List (ClassId × FieldType)) : zMono (zlald tys) := fun _ _ h _ _ _ _ _ _ _ _ _ _ _ ⟨a, j, r, t, cA, NA, f, h1, h2, h3, h4, h5, h6⟩ => ⟨a, j, r, t, cA, NA, f, h1, h2, h3, h4, h5, h _ _ _ _ _ _ _ _ _ _ _ h6⟩
theorem zlald_ok (hd : decode (mt μ).2.1 pc = .ok (.laload, 1)) : zS l mt big nst D cl tys b0 μ pc (zlald tys) := by
  intro d K N L st w k n Q hx p e R s m args below meth c hC H locs ls hI hL
  obtain ⟨a, j, r, t, cA, NA, f, rfl, h2, h3, h4, h5, h6⟩ := hx
  have hk := h6 p e R s m args below meth c hC H locs ls hI hL
  refine ww_lald hC.1 hC.2.1 hC.2.2.2.2.2.2.2.2.1 hI t h3 h2 (vp_in_nI h4 h5) hd ?_
  rw [nI_clamp (Nat.lt_trans h4 h5)]
  exact hk
def zlast (tys : List (ClassId × FieldType)) : zP → zP := fun P d K N μ pc L st w k n Q => ∃ (a j : Nat) (x : Int64) (r : List Value) (t : Nat) (cA : ClassId) (NA : Nat) (f : Nat → Int64), st = .long x :: .int (nI j) :: .ref a :: r ∧ tys[t]? = some (cA, .long) ∧ w a = some (.inl (cA, NA, .inr (.inl f))) ∧ j < NA ∧ NA < 2 ^ 31 ∧ P d K N μ (pc + 1) L r (va_up w a (some (.inl (cA, NA, .inr (.inl (vp_updL f j x)))))) k n Q
theorem zlast_mono (tys : List (ClassId × FieldType)) : zMono (zlast tys) := fun _ _ h _ _ _ _ _ _ _ _ _ _ _ ⟨a, j, x, r, t, cA, NA, f, h1, h2, h3, h4, h5, h6⟩ => ⟨a, j, x, r, t, cA, NA, f, h1, h2, h3, h4, h5, h _ _ _ _ _ _ _ _ _ _ _ h6⟩
theorem zlast_ok (hd : decode (mt μ).2.1 pc = .ok (.lastore, 1)) : zS l mt big nst D cl tys b0 μ pc (zlast tys) := by
  intro d K N L st w k n Q hx p e R s m args below meth c hC H locs ls hI hL
  obtain ⟨a, j, x, r, t, cA, NA, f, rfl, h2, h3, h4, h5, h6⟩ := hx
  refine ww_last hC.1 hC.2.1 hC.2.2.2.2.2.2.2.2.1 hI t h3 h2 (vp_in_nI h4 h5) hd (fun H1 locs1 hI1 => ?_)
  rw [nI_clamp (Nat.lt_trans h4 h5)] at hI1
  exact h6 p e R s m args below meth c hC H1 locs1 ls hI1 hL
def zaald (tys : List (ClassId × FieldType)) : zP → zP := fun P d K N μ pc L st w k n Q => ∃ (a j : Nat) (r : List Value) (t : Nat) (cA : ClassId) (C : String) (NA : Nat) (f : Nat → Option Nat) (v : Value), st = .int (nI j) :: .ref a :: r ∧ tys[t]? = some (cA, .object C) ∧ w a = some (.inl (cA, NA, .inr (.inr (.inr (.inr f))))) ∧ j < NA ∧ NA < 2 ^ 31 ∧ v = va_rf (f j) ∧ P d K N μ (pc + 1) L (v :: r) w k n Q
theorem zaald_mono (tys : List (ClassId × FieldType)) : zMono (zaald tys) := fun _ _ h _ _ _ _ _ _ _ _ _ _ _ ⟨a, j, r, t, cA, C, NA, f, v, h1, h2, h3, h4, h5, h6, h7⟩ => ⟨a, j, r, t, cA, C, NA, f, v, h1, h2, h3, h4, h5, h6, h _ _ _ _ _ _ _ _ _ _ _ h7⟩
theorem zaald_ok (hd : decode (mt μ).2.1 pc = .ok (.aaload, 1)) : zS l mt big nst D cl tys b0 μ pc (zaald tys) := by
  intro d K N L st w k n Q hx p e R s m args below meth c hC H locs ls hI hL
  obtain ⟨a, j, r, t, cA, C, NA, f, v, rfl, h2, h3, h4, h5, rfl, h7⟩ := hx
  have hk := h7 p e R s m args below meth c hC H locs ls hI hL
  refine ww_aldq hC.1 hC.2.1 hC.2.2.2.2.2.2.2.2.1 hI t h3 h2 (vp_in_nI h4 h5) hd ?_
  rw [nI_clamp (Nat.lt_trans h4 h5)]
  exact hk
/-- into a row of E: null, or an object of one of the classes cs -/
def zaast (tys : List (ClassId × FieldType)) (E : String) (cs : List Nat) : zP → zP := fun P d K N μ pc L st w k n Q => ∃ (a j : Nat) (v : Value) (x : Option Nat) (r : List Value) (t : Nat) (cA : ClassId) (NA : Nat) (f : Nat → Option Nat), st = v :: .int (nI j) :: .ref a :: r ∧ zrf v = some x ∧ tys[t]? = some (cA, .object E) ∧ w a = some (.inl (cA, NA, .inr (.inr (.inr (.inr f))))) ∧ j < NA ∧ NA < 2 ^ 31 ∧ (∀ b : Nat, x = some b → ∃ ci ∈ cs, ∃ fs : List Value, w b = some (.inr (ci, fs))) ∧ P d K N μ (pc + 1) L r (va_up w a (some (.inl (cA, NA, .inr (.inr (.inr (.inr (va_up f j x)))))))) k n Q
theorem zaast_mono (tys : List (ClassId × FieldType)) (E : String) (cs : List Nat) : zMono (zaast tys E cs) := fun _ _ h _ _ _ _ _ _ _ _ _ _ _ ⟨a, j, v, x, r, t, cA, NA, f, h1, h2, h3, h4, h5, h6, h7, h8⟩ => ⟨a, j, v, x, r, t, cA, NA, f, h1, h2, h3, h4, h5, h6, h7, h _ _ _ _ _ _ _ _ _ _ _ h8⟩
theorem zaast_ok {E : String} {cs : List Nat} (hd : decode (mt μ).2.1 pc = .ok (.aastore, 1)) (hcs : ∀ ci ∈ cs, ∃ r : vw_C, cl[ci]? = some r ∧ (r.1 = E ∨ Cond.castable r.1 E ∈ nst)) : zS l mt big nst D cl tys b0 μ pc (zaast tys E cs) := by
  intro d K N L st w k n Q hx p e R s m args below meth c hC H locs ls hI hL
  obtain ⟨a, j, v, x, r, t, cA, NA, f, rfl, hv, h2, h3, h4, h5, h6, h7⟩ := hx
  have hK := hC.2.2.2.2.2.2.2.2.1
  cases x with
  | none =>
    rw [zrf_rf hv]
    refine ww_astqN hC.1 hC.2.1 hK hI t h3 h2 (vp_in_nI h4 h5) hd (fun H1 locs1 hI1 => ?_)
    rw [nI_clamp (Nat.lt_trans h4 h5)] at hI1
    exact h7 p e R s m args below meth c hC H1 locs1 ls hI1 hL
  | some b =>
    rw [zrf_rf hv]
    obtain ⟨ci, hci, fs, hb⟩ := h6 b rfl
    obtain ⟨q, hq, ho⟩ := hcs ci hci
    have hany : va_Any E s H b := by
      rcases ho with ho | ho
      · refine va_rAny (q0 := 0) hK (ww_one (hI.1 _ _ hb).1) rfl hq (fun comp c0 g1 g2 => ?_)
        rw [ho, g1] at g2
        cases g2
        have hK1 := (hK.1 ci q hq).2
        have e1 : comp = D.1 ci := Option.some.inj (g1.symm.trans (by rw [← ho]; exact hK1.1))
        rw [e1]
        exact va_assign hK1
      · exact ww_any hK hI hb hq (hC.2.2.2.2.2.2.2.2.2.2.2.2.2 _ ho)
    refine ww_astq hC.1 hC.2.1 hK hI t h3 h2 hany (vp_in_nI h4 h5) hd (fun H1 locs1 hI1 => ?_)
    rw [nI_clamp (Nat.lt_trans h4 h5)] at hI1
    exact h7 p e R s m args below meth c hC H1 locs1 ls hI1 hL
def znewi (tys : List (ClassId × FieldType)) : zP → zP := fun P d K N μ pc L st w k n Q => ∃ (j : Nat) (r : List Value) (t : Nat) (cA : ClassId), st = .int (nI j) :: r ∧ tys[t]? = some (cA, .int) ∧ j < 2 ^ 20 ∧ k + 1 ≤ K ∧ n + j ≤ N ∧ ∀ q : Nat, w q = none → P d K N μ (pc + 2) L (.ref q :: r) (va_up w q (some (.inl (cA, j, .inl (fun _ => 0))))) (k + 1) (n + j) Q
theorem znewi_mono (tys : List (ClassId × FieldType)) : zMono (znewi tys) := fun _ _ h _ _ _ _ _ _ _ _ _ _ _ ⟨j, r, t, cA, h1, h2, h3, h4, h5, h6⟩ => ⟨j, r, t, cA, h1, h2, h3, h4, h5, fun q hq => h _ _ _ _ _ _ _ _ _ _ _ (h6 q hq)⟩
theorem znewi_ok (hd : decode (mt μ).2.1 pc = .ok (.newarray .int, 2)) (ha : Cond.arrayClass (newarray.typeOf .int) ∈ big) : zS l mt big nst D cl tys b0 μ pc (znewi tys) := by
  intro d K N L st w k n Q hx p e R s m args below meth c hC H locs ls hI hL
  obtain ⟨j, r, t, cA, rfl, h2, h3, h4, h5, h6⟩ := hx
  exact ww_newi hC.1 hC.2.1 (hC.2.2.2.2.1 _ ha) hC.2.2.2.2.2.2.2.2.1 hI t h2 (nI_pos (by omega)) (nI_clamp (by omega)) (by omega) (Nat.le_trans h4 hC.2.2.2.2.2.2.2.2.2.2.2.1) (Nat.le_trans h5 hC.2.2.2.2.2.2.2.2.2.2.2.2.1) hd (fun q H1 hq hI1 => h6 q hq p e R s m args below meth c hC H1 locs ls hI1 hL)
def znewl (tys : List (ClassId × FieldType)) : zP → zP := fun P d K N μ pc L st w k n Q => ∃ (j : Nat) (r : List Value) (t : Nat) (cA : ClassId), st = .int (nI j) :: r ∧ tys[t]? = some (cA, .long) ∧ j < 2 ^ 20 ∧ k + 1 ≤ K ∧ n + j ≤ N ∧ ∀ q : Nat, w q = none → P d K N μ (pc + 2) L (.ref q :: r) (va_up w q (some (.inl (cA, j, .inr (.inl (fun _ => 0)))))) (k + 1) (n + j) Q
theorem znewl_mono (tys : List (ClassId × FieldType)) : zMono (znewl tys) := fun _ _ h _ _ _ _ _ _ _ _ _ _ _ ⟨j, r, t, cA, h1, h2, h3, h4, h5, h6⟩ => ⟨j, r, t, cA, h1, h2, h3, h4, h5, fun q hq => h _ _ _ _ _ _ _ _ _ _ _ (h6 q hq)⟩
theorem znewl_ok (hd : decode (mt μ).2.1 pc = .ok (.newarray .long, 2)) (ha : Cond.arrayClass (newarray.typeOf .long) ∈ big) : zS l mt big nst D cl tys b0 μ pc (znewl tys) := by
  intro d K N L st w k n Q hx p e R s m args below meth c hC H locs ls hI hL
  obtain ⟨j, r, t, cA, rfl, h2, h3, h4, h5, h6⟩ := hx
  exact ww_newl hC.1 hC.2.1 (hC.2.2.2.2.1 _ ha) hC.2.2.2.2.2.2.2.2.1 hI t h2 (nI_pos (by omega)) (nI_clamp (by omega)) (by omega) (Nat.le_trans h4 hC.2.2.2.2.2.2.2.2.2.2.2.1) (Nat.le_trans h5 hC.2.2.2.2.2.2.2.2.2.2.2.2.1) hd (fun q H1 hq hI1 => h6 q hq p e R s m args below meth c hC H1 locs ls hI1 hL)
def znewq (tys : List (ClassId × FieldType)) (C : String) : zP → zP := fun P d K N μ pc L st w k n Q => ∃ (j : Nat) (r : List Value) (t : Nat) (cA : ClassId), st = .int (nI j) :: r ∧ tys[t]? = some (cA, .object C) ∧ j < 2 ^ 20 ∧ k + 1 ≤ K ∧ n + j ≤ N ∧ ∀ q : Nat, w q = none → P d K N μ (pc + 3) L (.ref q :: r) (va_up w q (some (.inl (cA, j, .inr (.inr (.inr (.inr (fun _ => none)))))))) (k + 1) (n + j) Q
theorem znewq_mono (tys : List (ClassId × FieldType)) (C : String) : zMono (znewq tys C) := fun _ _ h _ _ _ _ _ _ _ _ _ _ _ ⟨j, r, t, cA, h1, h2, h3, h4, h5, h6⟩ => ⟨j, r, t, cA, h1, h2, h3, h4, h5, fun q hq => h _ _ _ _ _ _ _ _ _ _ _ (h6 q hq)⟩
theorem znewq_ok {C : String} {index : Nat} (hd : decode (mt μ).2.1 pc = .ok (.anewarray index, 3)) (hl : Cond.classLink (mt μ).1.cls index C ∈ big) (ha : Cond.arrayOver (.object C) ∈ nst) : zS l mt big nst D cl tys b0 μ pc (znewq tys C) := by
  intro d K N L st w k n Q hx p e R s m args below meth c hC H locs ls hI hL
  obtain ⟨j, r, t, cA, rfl, h2, h3, h4, h5, h6⟩ := hx
  exact ww_newq hC.1 hC.2.1 hC.2.2.2.2.2.1 (hC.2.2.2.2.1 _ hl) (va_AO.of (hC.2.2.2.2.2.2.2.2.2.2.2.2.2 _ ha)) hC.2.2.2.2.2.2.2.2.1 hI t h2 (nI_pos (by omega)) (nI_clamp (by omega)) (by omega) (Nat.le_trans h4 hC.2.2.2.2.2.2.2.2.2.2.2.1) (Nat.le_trans h5 hC.2.2.2.2.2.2.2.2.2.2.2.2.1) hd (fun q H1 hq hI1 => h6 q hq p e R s m args below meth c hC H1 locs ls hI1 hL)
/-! returns -/
def zQc (D : va_G) (cl : List vw_C) (tys : List (ClassId × FieldType)) (b0 : Nat) (Q : zQ) : Array Value → State → Outcome → State → Prop := fun _ st oc t =>
  (∃ (v : Option Value) (u : ww_W × Nat × Nat), oc = .returned v ∧ Q (.inl v) u.1 u.2.1 u.2.2 ∧ ww_B D cl tys b0 st.heap.size (ww_t st.heap) u t) ∧ va_F (ww_F b0) st t
theorem zQc_end {w : ww_W} {H : Heap} {locs : List Loc} {k n : Nat} {Q : zQ} {v : Option Value} {s t : State} {a : Array Value} (hK : va_K D cl tys s) (hI : ww_I D cl b0 w s.heap H locs) (k1 : H.size ≤ s.heap.size + k) (k2 : ww_t H ≤ ww_t s.heap + n) (hq : Q (.inl v) w k n) (ht : t.heap = H) (hW : s.WarmedH t.vm) : zQc D cl tys b0 Q a s (.returned v) t :=
  ⟨⟨v, (w, k, n), rfl, hq, ww_end hK hI k1 k2 ht hW⟩, hI.2.1.F ht⟩
theorem zMQ_of {below : List Frame} {Q : zQ} {a : Array Value} {s : State} {mc ms : Nat} (t : State) (h : MQ below (zQc D cl tys b0 Q) a s mc ms (ww_F b0) t) : zMQ D cl tys b0 below Q s mc ms t := by
  obtain ⟨o, h1, h2, ⟨⟨v, u, h3, h4, h5⟩, h6⟩, Ls, ⟨-, h7, h8⟩, h9⟩ := h
  exact ⟨o, h1, h2, ⟨⟨.inl v, u, Or.inl ⟨v, rfl, h3⟩, h4, h5⟩, h6⟩, Ls, ⟨h7, h8⟩, h9⟩
theorem zMQ_to {below : List Frame} {Q : zQ} {a : Array Value} {s : State} {mc ms : Nat} (hno : ∀ (x : Nat) (w : ww_W) (k n : Nat), ¬ Q (.inr x) w k n) (t : State) (h : zMQ D cl tys b0 below Q s mc ms t) : MQ below (zQc D cl tys b0 Q) a s mc ms (ww_F b0) t := by
  obtain ⟨o, h1, h2, ⟨⟨res, u, h3, h4, h5⟩, h6⟩, Ls, ⟨h7, h8⟩, h9⟩ := h
  rcases h3 with ⟨v, rfl, h3⟩ | ⟨x, rfl, h3⟩
  · exact ⟨o, h1, h2, ⟨⟨v, u, h3, h4, h5⟩, h6⟩, Ls, ⟨⟨v, h3⟩, h7, h8⟩, h9⟩
  · exact absurd h4 (hno _ _ _ _)
def zretI : zP → zP := fun _ _ K N _ _ _ st w k n Q => ∃ x : Int32, st = [.int x] ∧ k ≤ K ∧ n ≤ N ∧ Q (.inl (some (.int x))) w k n
theorem zretI_mono : zMono zretI := fun _ _ _ _ _ _ _ _ _ _ _ _ _ _ hx => hx
theorem zretI_ok (hd : decode (mt μ).2.1 pc = .ok (.ireturn, 1)) (hr : (mt μ).2.2.2 = some .int) : zS l mt big nst D cl tys b0 μ pc zretI := by
  intro d K N L st w k n Q hx p e R s m args below meth c hC H locs ls hI hL
  obtain ⟨x, rfl, h1, h2, h3⟩ := hx
  refine ww_know fun k1 k2 => W.widen h1 h2 (W_mono ?_ (zMQ_of (a := args)))
  exact W.iret hC.1 hC.2.1 (hC.2.2.2.1.trans hr) (fun t ht hW => zQc_end hC.2.2.2.2.2.2.2.2.1 hI k1 k2 h3 ht hW) hI.2.1.2.2 hd hC.2.2.2.2.2.2.1
def zretZ : zP → zP := fun _ _ K N _ _ _ st w k n Q => ∃ x : Int32, st = [.int x] ∧ (x = 0 ∨ x = 1) ∧ k ≤ K ∧ n ≤ N ∧ Q (.inl (some (.int x))) w k n
theorem zretZ_mono : zMono zretZ := fun _ _ _ _ _ _ _ _ _ _ _ _ _ _ hx => hx
theorem zretZ_ok (hd : decode (mt μ).2.1 pc = .ok (.ireturn, 1)) (hr : (mt μ).2.2.2 = some .boolean) : zS l mt big nst D cl tys b0 μ pc zretZ := by
  intro d K N L st w k n Q hx p e R s m args below meth c hC H locs ls hI hL
  obtain ⟨x, rfl, h0, h1, h2, h3⟩ := hx
  refine ww_know fun k1 k2 => W.widen h1 h2 (W_mono ?_ (zMQ_of (a := args)))
  exact W.zret hC.1 hC.2.1 (hC.2.2.2.1.trans hr) (by rcases h0 with rfl | rfl <;> rfl) (fun t ht hW => zQc_end hC.2.2.2.2.2.2.2.2.1 hI k1 k2 h3 ht hW) hI.2.1.2.2 hd hC.2.2.2.2.2.2.1
def zretA : zP → zP := fun _ _ K N _ _ _ st w k n Q => ∃ (v : Value) (r : Option Nat), st = [v] ∧ zrf v = some r ∧ k ≤ K ∧ n ≤ N ∧ Q (.inl (some v)) w k n
theorem zretA_mono : zMono zretA := fun _ _ _ _ _ _ _ _ _ _ _ _ _ _ hx => hx
theorem zretA_ok {rt : FieldType} (hd : decode (mt μ).2.1 pc = .ok (.areturn, 1)) (hr : (mt μ).2.2.2 = some rt) (hrt : (∃ n, rt = .object n) ∨ ∃ t, rt = .array t) : zS l mt big nst D cl tys b0 μ pc zretA := by
  intro d K N L st w k n Q hx p e R s m args below meth c hC H locs ls hI hL
  obtain ⟨v, r, rfl, h0, h1, h2, h3⟩ := hx
  have hv : v = va_rf r := zrf_rf h0
  refine ww_know fun k1 k2 => W.widen h1 h2 (W_mono ?_ (zMQ_of (a := args)))
  exact W.aret hC.1 hC.2.1 (hC.2.2.2.1.trans hr) hrt (by rw [hv]; exact va_rf_or r) (fun t ht hW => zQc_end hC.2.2.2.2.2.2.2.2.1 hI k1 k2 h3 ht hW) hI.2.1.2.2 hd hC.2.2.2.2.2.2.1
def zretV : zP → zP := fun _ _ K N _ _ _ st w k n Q => st = [] ∧ k ≤ K ∧ n ≤ N ∧ Q (.inl none) w k n
theorem zretV_mono : zMono zretV := fun _ _ _ _ _ _ _ _ _ _ _ _ _ _ hx => hx
theorem zretV_ok (hd : decode (mt μ).2.1 pc = .ok (.return_, 1)) (hr : (mt μ).2.2.2 = none) : zS l mt big nst D cl tys b0 μ pc zretV := by
  intro d K N L st w k n Q hx p e R s m args below meth c hC H locs ls hI hL
  obtain ⟨rfl, h1, h2, h3⟩ := hx
  refine ww_know fun k1 k2 => W.widen h1 h2 (W_mono ?_ (zMQ_of (a := args)))
  exact W.vret hC.1 hC.2.1 (hC.2.2.2.1.trans hr) (fun t ht hW => zQc_end hC.2.2.2.2.2.2.2.2.1 hI k1 k2 h3 ht hW) hI.2.1.2.2 hd hC.2.2.2.2.2.2.1
end ZJ
