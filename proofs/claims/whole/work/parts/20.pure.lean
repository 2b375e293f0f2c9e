/-! what a run does, as pure functions: values, environments, the evaluator -/
/-- a value: a vector's elements, or a function (its expression, the environment of its making, its number) -/
abbrev aV : Type := List Int32 ⊕ (Nat × Nat × Nat)
/-- an argument: expression, home, being evaluated?, its value -/
abbrev aA : Type := Nat × Nat × Bool × Option aV
abbrev aL : Type := Option (aV ⊕ aA)
/-- an environment: what it has, the function called, how many arguments, is the call over? -/
abbrev aE : Type := (Nat → aL) × Option (Nat × Nat × Nat) × Nat × Bool
/-- environments, how many were made, functions made, steps, arguments evaluated, failure, the end by a RETURN -/
abbrev aS : Type := (Nat → aE) × Nat × Nat × Nat × Nat × Int32 × Option (Nat × aV)
abbrev aP : Type := Nat → Int32 × Int32 × Int32 × Int32
abbrev aR : Type := Option aV × aS
def sN (s : aS) : Nat := s.2.1
def sF (s : aS) : Nat := s.2.2.1
def sT (s : aS) : Nat := s.2.2.2.1
def sA (s : aS) : Nat := s.2.2.2.2.1
def sX (s : aS) : Int32 := s.2.2.2.2.2.1
def sR (s : aS) : Option (Nat × aV) := s.2.2.2.2.2.2
def uE (s : aS) (E : Nat → aE) : aS := (E, s.2)
def uN (s : aS) (n : Nat) : aS := (s.1, n, s.2.2)
def uF (s : aS) (n : Nat) : aS := (s.1, s.2.1, n, s.2.2.2)
def uT (s : aS) (n : Nat) : aS := (s.1, s.2.1, s.2.2.1, n, s.2.2.2.2)
def uA (s : aS) (n : Nat) : aS := (s.1, s.2.1, s.2.2.1, s.2.2.2.1, n, s.2.2.2.2.2)
def uX (s : aS) (x : Int32) : aS := (s.1, s.2.1, s.2.2.1, s.2.2.2.1, s.2.2.2.2.1, x, s.2.2.2.2.2.2)
def uR (s : aS) (x : Option (Nat × aV)) : aS := (s.1, s.2.1, s.2.2.1, s.2.2.2.1, s.2.2.2.2.1, s.2.2.2.2.2.1, x)
/-- the slot j of the environment i -/
def sL (s : aS) (i j : Nat) : aL := (s.1 i).1 j
def uL (s : aS) (i j : Nat) (x : aL) : aS := (va_up s.1 i (va_up (s.1 i).1 j x, (s.1 i).2), s.2)
def sC (s : aS) (i : Nat) : Option (Nat × Nat × Nat) := (s.1 i).2.1
def sG (s : aS) (i : Nat) : Nat := (s.1 i).2.2.1
def sO (s : aS) (i : Nat) : Bool := (s.1 i).2.2.2
def uO (s : aS) (i : Nat) (b : Bool) : aS := (va_up s.1 i ((s.1 i).1, (s.1 i).2.1, (s.1 i).2.2.1, b), s.2)
def vg (m : Nat) (g : Nat → Int32) : List Int32 := (List.range m).map g
theorem vg_len (m : Nat) (g : Nat → Int32) : (vg m g).length = m := by simp [vg]
theorem vg_at {m j : Nat} {g : Nat → Int32} (h : j < m) : p_at (vg m g) j = g j := by simp [vg, p_at, h]
def tN (x : Int32) : Nat := x.toNatClampNeg
def kd (P : aP) (e : Nat) : Int32 := (P e).1
def pa (P : aP) (e : Nat) : Int32 := (P e).2.1
def pb (P : aP) (e : Nat) : Int32 := (P e).2.2.1
def pc (P : aP) (e : Nat) : Int32 := (P e).2.2.2
/-- the nearest environment from i on that has something for v -/
def e_pl (s : aS) (v : Nat) : Nat → Nat → Option Nat
  | 0, _ => none
  | r + 1, i => if (sL s i v).isSome then some i else match sC s i with
    | none => none
    | some f => e_pl s v r f.2.1
/-- where an assignment around goes to -/
def e_na (s : aS) (v : Nat) : Nat → Nat → Nat
  | 0, i => i
  | r + 1, i => match sC s i with
    | none => i
    | some f => if (sL s i v).isSome then i else e_na s v r f.2.1
def e_ar (s : aS) (v i : Nat) : Nat := match sC s i with
  | none => i
  | some f => e_na s v 91 f.2.1
def e_fail (s : aS) (x : Int32) : aR := (none, uX s x)
def e_nul : Option aV := some (.inl [])
def e_tru (x : Int32) : Option aV := if x = 0 then some (.inl [0]) else some (.inl [1])
/-- an argument's evaluation is over -/
def e_un (s : aS) (i j : Nat) (v : Option aV) : aS := match sL s i j with
  | some (.inr a) => uL s i j (some (.inr (a.1, a.2.1, false, match v with
    | some x => some x
    | none => a.2.2.2)))
  | _ => s
def e_ct (s : aS) (v : Option aV) : aS := match v with
  | some _ => uA s (sA s + 1)
  | none => s
def e_arg (f : aS → Nat → Nat → aR) (s : aS) (i j : Nat) (a : aA) : aR :=
  if a.2.2.1 then e_fail s 2 else
    ((f (uL s i j (some (.inr (a.1, a.2.1, true, none)))) a.1 a.2.1).1, e_ct (e_un (f (uL s i j (some (.inr (a.1, a.2.1, true, none)))) a.1 a.2.1).2 i j (f (uL s i j (some (.inr (a.1, a.2.1, true, none)))) a.1 a.2.1).1) (f (uL s i j (some (.inr (a.1, a.2.1, true, none)))) a.1 a.2.1).1)
def e_val (f : aS → Nat → Nat → aR) (s : aS) (i j : Nat) : aR := match sL s i j with
  | some (.inl v) => (some v, s)
  | some (.inr a) => (match a.2.2.2 with
    | some v => (some v, s)
    | none => e_arg f s i j a)
  | none => (none, s)
def e_read (P : aP) (f : aS → Nat → Nat → aR) (s : aS) (e i : Nat) : aR := match e_pl s (tN (pa P e)) 91 i with
  | none => e_fail s 4
  | some i' => e_val f s i' (tN (pa P e))
/-- go on with a value -/
def e_bd (r : aR) (g : aV → aS → aR) : aR := match r.1 with
  | none => (none, r.2)
  | some v => g v r.2
def e_asg (P : aP) (f : aS → Nat → Nat → aR) (s : aS) (e i : Nat) : aR :=
  e_bd (f s (tN (pb P e)) i) (fun v s1 => (some v, uL s1 (if kd P e = 4 then i else e_ar s1 (tN (pa P e)) i) (tN (pa P e)) (some (.inl v))))
/-- go on with a vector's elements -/
def e_vec (g : List Int32 → aS → aR) (v : aV) (s1 : aS) : aR := match v with
  | .inl xs => g xs s1
  | .inr _ => e_fail s1 3
def e_bv (r : aR) (g : List Int32 → aS → aR) : aR := e_bd r (fun v s1 => e_vec g v s1)
def e_one (P : aP) (f : aS → Nat → Nat → aR) (s : aS) (e i : Nat) : aR :=
  e_bv (f s (tN (pa P e)) i) (fun xs s1 =>
    if kd P e = 9 then (some (.inl (vg xs.length (fun j => p_not (p_at xs j)))), s1)
    else if kd P e = 14 then (some (.inl [nI xs.length]), s1)
    else if kd P e = 15 then (some (.inl [p_sumL (p_at xs) xs.length 0 0]), s1)
    else e_fail s1 (p_rai (p_fst xs.length (p_at xs))))
/-- two vectors put together: a vector or a failure -/
def e_join (xs ys : List Int32) : List Int32 ⊕ Int32 := if xs.length + ys.length ≤ 16 then .inl (vg (xs.length + ys.length) (fun j => if j < xs.length then p_at xs j else p_at ys (j - xs.length))) else .inr 1
def e_rng (x y : Int32) : List Int32 ⊕ Int32 := if x = pNA ∨ y = pNA then .inr 5 else if p_abs (y - x) < 16 then .inl (vg (tN (p_abs (y - x)) + 1) (p_rg x y)) else .inr 1
def e_pick (xs ys : List Int32) : List Int32 ⊕ Int32 := match p_find (p_at ys) ys.length xs.length true with
  | none => .inr 8
  | some l => .inl (vg l.length (fun j => p_el xs.length (p_at xs) (p_at l j)))
def e_pair (k c : Int32) (xs ys : List Int32) : List Int32 := if xs.length = 0 ∨ ys.length = 0 then [] else vg (max xs.length ys.length) (fun j => p_pair k c (p_at xs (j % xs.length)) (p_at ys (j % ys.length)))
def e_comb (k c : Int32) (xs ys : List Int32) : List Int32 ⊕ Int32 :=
  if k = 10 then e_join xs ys
  else if k = 11 then e_rng (p_fst xs.length (p_at xs)) (p_fst ys.length (p_at ys))
  else if k = 12 then e_pick xs ys
  else if k = 25 then .inl (if p_same xs.length ys.length (p_at xs) (p_at ys) = 0 then [0] else [1])
  else .inl (e_pair k c xs ys)
def e_out (r : List Int32 ⊕ Int32) (s : aS) : aR := match r with
  | .inl xs => (some (.inl xs), s)
  | .inr x => e_fail s x
def e_eqv (u v : aV) : Int32 := match u, v with
  | .inr f, .inr g => if f.2.2 = g.2.2 then 1 else 0
  | _, _ => 0
def e_cb (P : aP) (e : Nat) (u v : aV) (s2 : aS) : aR := match u, v with
  | .inl xs, .inl ys => e_out (e_comb (kd P e) (pc P e) xs ys) s2
  | _, _ => if kd P e = 25 then (e_tru (e_eqv u v), s2) else e_fail s2 3
def e_two (P : aP) (f : aS → Nat → Nat → aR) (s : aS) (e i : Nat) : aR :=
  e_bd (f s (tN (pa P e)) i) (fun u s1 => e_bd (f s1 (tN (pb P e)) i) (fun v s2 => e_cb P e u v s2))
/-- the elements zs laid at the indexes ys of xs: nothing to change, or the new elements, or a failure -/
def e_rep (xs ys zs : List Int32) : Option (List Int32) ⊕ Int32 := match p_find (p_at ys) ys.length xs.length false with
  | none => .inr 8
  | some l => if l = [] then .inl none else if zs.length = 0 then .inr 5
    else if p_max (nI xs.length) (p_reL l l.length 0 0) ≤ 16 then .inl (some (vg (tN (p_max (nI xs.length) (p_reL l l.length 0 0))) (p_rpL l (p_at zs) zs.length l.length 0 (p_old xs.length (p_at xs)))))
    else .inr 1
def e_sto (xs ys zs : List Int32) (s : aS) (i j : Nat) : aR := match e_rep xs ys zs with
  | .inr x => e_fail s x
  | .inl none => (some (.inl zs), s)
  | .inl (some l) => (some (.inl zs), uL s i j (some (.inl (.inl l))))
def e_rpo (o : aV) (ys zs : List Int32) (s3 : aS) (i j : Nat) : aR := match o with
  | .inl xs => e_sto xs ys zs s3 i j
  | .inr _ => e_fail s3 3
def e_old (P : aP) (f : aS → Nat → Nat → aR) (e i : Nat) (s2 : aS) : aR := match e_pl s2 (tN (pa P e)) 91 i with
  | none => (e_nul, s2)
  | some i' => e_val f s2 i' (tN (pa P e))
def e_rpl (P : aP) (f : aS → Nat → Nat → aR) (e i : Nat) (u v : aV) (s2 : aS) : aR := match u, v with
  | .inl ys, .inl zs => e_bd (e_old P f e i s2) (fun o s3 => e_rpo o ys zs s3 i (tN (pa P e)))
  | _, _ => e_fail s2 3
def e_repl (P : aP) (f : aS → Nat → Nat → aR) (s : aS) (e i : Nat) : aR :=
  e_bd (f s (tN (pb P e)) i) (fun u s1 => e_bd (f s1 (tN (pc P e)) i) (fun v s2 => e_rpl P f e i u v s2))
def e_cond (r : aR) (g : Int32 → aS → aR) : aR := e_bv r (fun xs s1 => if p_fst xs.length (p_at xs) = pNA then e_fail s1 7 else g (p_fst xs.length (p_at xs)) s1)
def e_if (P : aP) (f : aS → Nat → Nat → aR) (s : aS) (e i : Nat) : aR :=
  e_cond (f s (tN (pa P e)) i) (fun x s1 => if x = 0 then (if pc P e = -1 then (e_nul, s1) else f s1 (tN (pc P e)) i) else f s1 (tN (pb P e)) i)
def e_whl (P : aP) (f : aS → Nat → Nat → aR) (e i : Nat) : Nat → aS → aR
  | 0, s => e_fail s 9
  | r + 1, s => e_cond (f s (tN (pa P e)) i) (fun x s1 => if x = 0 then (e_nul, s1) else e_bd (f s1 (tN (pb P e)) i) (fun _ s2 => e_whl P f e i r s2))
def e_then (P : aP) (f : aS → Nat → Nat → aR) (s : aS) (e i : Nat) : aR := e_bd (f s (tN (pa P e)) i) (fun _ s1 => f s1 (tN (pb P e)) i)
def e_take (s : aS) (i : Nat) : aR := match sR s with
  | none => (none, s)
  | some x => if x.1 = i then (some x.2, uR s none) else (none, s)
def e_giv (P : aP) (e : Nat) : Nat := (if pb P e = -1 then 0 else 1) + (if pc P e = -1 then 0 else 1)
/-- the slots of a new environment -/
def e_sl (P : aP) (e i fi g : Nat) : Nat → aL := fun j => if j = fi + 1 ∧ 1 < g then some (.inr (tN (pc P e), i, false, none)) else if j = fi ∧ 0 < g then some (.inr (tN (pb P e), i, false, none)) else none
def e_new (P : aP) (s : aS) (e i : Nat) (fn : Nat × Nat × Nat) : aS := (va_up s.1 (sN s + 1) (e_sl P e i (tN (pc P fn.1)) (e_giv P e), some fn, e_giv P e, false), sN s + 1, s.2.2)
def e_ent (P : aP) (f : aS → Nat → Nat → aR) (s : aS) (e i : Nat) (fn : Nat × Nat × Nat) : aR :=
  if pb P fn.1 < nI (e_giv P e) then e_fail s 6 else if 90 ≤ sN s then e_fail s 9
  else match (f (e_new P s e i fn) (tN (pa P fn.1)) (sN s + 1)).1 with
    | some v => (some v, uO (f (e_new P s e i fn) (tN (pa P fn.1)) (sN s + 1)).2 (sN s + 1) true)
    | none => e_take (uO (f (e_new P s e i fn) (tN (pa P fn.1)) (sN s + 1)).2 (sN s + 1) true) (sN s + 1)
def e_cal (P : aP) (f : aS → Nat → Nat → aR) (e i : Nat) (v : aV) (s1 : aS) : aR := match v with
  | .inl _ => e_fail s1 3
  | .inr fn => e_ent P f s1 e i fn
def e_call (P : aP) (f : aS → Nat → Nat → aR) (s : aS) (e i : Nat) : aR := e_bd (f s (tN (pa P e)) i) (fun v s1 => e_cal P f e i v s1)
def e_abs (P : aP) (s : aS) (e i : Nat) : aR := match sC s i with
  | none => e_fail s 6
  | some fn => if pa P e < pc P fn.1 then e_fail s 6 else if pc P fn.1 + pb P fn.1 ≤ pa P e then e_fail s 6
    else (e_tru (if pa P e - pc P fn.1 < nI (sG s i) then 0 else 1), s)
def e_ret (P : aP) (f : aS → Nat → Nat → aR) (s : aS) (e i : Nat) : aR := e_bd (f s (tN (pa P e)) i) (fun v s1 => if sO s1 i then e_fail s1 6 else (none, uR s1 (some (i, v))))
def e_try (P : aP) (f : aS → Nat → Nat → aR) (s : aS) (e i : Nat) : aR := match (f s (tN (pa P e)) i).1 with
  | some v => (some v, (f s (tN (pa P e)) i).2)
  | none => if sX (f s (tN (pa P e)) i).2 = 0 ∨ sX (f s (tN (pa P e)) i).2 = 9 then (none, (f s (tN (pa P e)) i).2)
    else f (uX (uL (f s (tN (pa P e)) i).2 i 9 (some (.inl (.inl [sX (f s (tN (pa P e)) i).2])))) 0) (tN (pb P e)) i
/-- one step: what an expression's kind asks, f evaluating the parts -/
def e_stp (P : aP) (f : aS → Nat → Nat → aR) (s : aS) (e i : Nat) : aR :=
  if kd P e = 0 then (some (.inl [pa P e]), s)
  else if kd P e = 1 then (some (.inl [pNA]), s)
  else if kd P e = 2 then (e_nul, s)
  else if kd P e = 3 then e_read P f s e i
  else if kd P e = 4 ∨ kd P e = 5 then e_asg P f s e i
  else if kd P e = 9 ∨ kd P e = 14 ∨ kd P e = 15 ∨ kd P e = 23 then e_one P f s e i
  else if kd P e = 13 then e_repl P f s e i
  else if kd P e = 16 then e_if P f s e i
  else if kd P e = 17 then e_whl P f e i 401 s
  else if kd P e = 18 then e_then P f s e i
  else if kd P e = 19 then (some (.inr (e, i, sF s)), uF s (sF s + 1))
  else if kd P e = 20 then e_call P f s e i
  else if kd P e = 21 then e_abs P s e i
  else if kd P e = 22 then e_ret P f s e i
  else if kd P e = 24 then e_try P f s e i
  else e_two P f s e i
/-- evaluation with room for d expressions within each other -/
def e_ev (P : aP) : Nat → aS → Nat → Nat → aR
  | 0, s, _, _ => e_fail s 9
  | d + 1, s, e, i => if 400 ≤ sT s then e_fail s 9 else e_stp P (e_ev P d) (uT s (sT s + 1)) e i
/-- a run -/
def e_run (P : aP) (s : aS) (e : Nat) : aR := match (e_ev P 40 (uX (uA (uT s 0) 0) 0) e 0).1 with
  | some v => (some v, (e_ev P 40 (uX (uA (uT s 0) 0) 0) e 0).2)
  | none => e_take (e_ev P 40 (uX (uA (uT s 0) 0) 0) e 0).2 0
/-- an expression that may be made when m were -/
def okH (m : Nat) (x : Int32) : Prop := ∃ j : Nat, j < m ∧ x = nI j
def okV (x : Int32) : Prop := ∃ j : Nat, j < 10 ∧ x = nI j
def okE (m : Nat) (k a b c : Int32) : Prop :=
  (∃ j : Nat, j < 26 ∧ k = nI j) ∧ (k = 0 → -1000000000 ≤ a ∧ a ≤ 1000000000) ∧ (k = 3 ∨ k = 21 → okV a) ∧ (k = 4 ∨ k = 5 → okV a ∧ okH m b) ∧ (k = 6 → ¬ c < 0 ∧ c ≤ 4) ∧ (k = 7 → ¬ c < 0 ∧ c ≤ 2) ∧ (k = 8 → ¬ c < 0 ∧ c ≤ 1)
  ∧ (k = 6 ∨ k = 7 ∨ k = 8 ∨ k = 10 ∨ k = 11 ∨ k = 12 ∨ k = 17 ∨ k = 18 ∨ k = 24 ∨ k = 25 → okH m a ∧ okH m b) ∧ (k = 9 ∨ k = 14 ∨ k = 15 ∨ k = 22 ∨ k = 23 → okH m a) ∧ (k = 13 → okV a ∧ okH m b ∧ okH m c)
  ∧ (k = 16 → okH m a ∧ okH m b ∧ (c = -1 ∨ okH m c)) ∧ (k = 19 → okH m a ∧ ∃ p : Nat, p ≤ 2 ∧ b = nI p ∧ (p = 0 ∨ ∃ f : Nat, f + p ≤ 10 ∧ c = nI f)) ∧ (k = 20 → okH m a ∧ (b = -1 ∧ c = -1 ∨ okH m b ∧ (c = -1 ∨ okH m c)))
