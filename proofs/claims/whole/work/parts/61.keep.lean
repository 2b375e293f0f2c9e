/-! what stays through a run, in general; the global environment holds no arguments -/
section PV
variable {P : aP} {J : aS → Prop} {f : aS → Nat → Nat → aR}
def JC (P : aP) (J : aS → Prop) : Prop := (∀ (s : aS) (z : Int32), J s → J (uX s z)) ∧ (∀ (s : aS) (i j : Nat) (v : aV), J s → J (uL s i j (some (.inl v)))) ∧ (∀ (s : aS) (i j : Nat) (a : aA) (t : Bool) (o : Option aV), J s → sL s i j = some (.inr a) → J (uL s i j (some (.inr (a.1, a.2.1, t, o))))) ∧ (∀ (s : aS) (n : Nat), J s → J (uA s n)) ∧ (∀ (s : aS) (o : Option (Nat × aV)), J s → J (uR s o)) ∧ (∀ (s : aS) (n : Nat), J s → J (uF s n)) ∧ (∀ (s : aS) (i : Nat) (t : Bool), J s → J (uO s i t)) ∧ (∀ (s : aS) (n : Nat), J s → J (uT s n)) ∧ ∀ (s : aS) (e i : Nat) (fn : Nat × Nat × Nat), J s → J (e_new P s e i fn)
def MJ (J : aS → Prop) (f : aS → Nat → Nat → aR) : Prop := ∀ (s : aS) (e i : Nat), J s → J (f s e i).2
theorem J_bd {r : aR} {g : aV → aS → aR} (h : J r.2) (hg : ∀ (v : aV) (s1 : aS), J s1 → J (g v s1).2) : J (e_bd r g).2 := by
  obtain ⟨o, s1⟩ := r
  cases o with
  | none => exact h
  | some v => exact hg v s1 h
theorem J_vec (hJ : JC P J) {g : List Int32 → aS → aR} (hg : ∀ (v : List Int32) (s1 : aS), J s1 → J (g v s1).2) (v : aV) (s1 : aS) (h : J s1) : J (e_vec g v s1).2 := by
  cases v with
  | inl xs => exact hg xs s1 h
  | inr f => exact hJ.1 _ _ h
theorem J_un (hJ : JC P J) {s : aS} {i j : Nat} {v : Option aV} (h : J s) : J (e_un s i j v) := by
  unfold e_un
  cases hs : sL s i j with
  | none => exact h
  | some l =>
    cases l with
    | inl u => exact h
    | inr a => exact hJ.2.2.1 s i j a _ _ h hs
theorem J_ct (hJ : JC P J) {s : aS} {v : Option aV} (h : J s) : J (e_ct s v) := by
  cases v with
  | none => exact h
  | some v => exact hJ.2.2.2.1 _ _ h
theorem J_val (hJ : JC P J) (hf : MJ J f) {s : aS} (i j : Nat) (h : J s) : J (e_val f s i j).2 := by
  unfold e_val
  cases hs : sL s i j with
  | none => exact h
  | some l =>
    cases l with
    | inl v => exact h
    | inr a =>
      obtain ⟨a1, a2, a3, a4⟩ := a
      cases a4 with
      | some v => exact h
      | none =>
        show J (e_arg f s i j (a1, a2, a3, none)).2
        unfold e_arg
        split
        · exact hJ.1 _ _ h
        · exact J_ct hJ (J_un hJ (hf _ a1 a2 (hJ.2.2.1 s i j (a1, a2, a3, none) true none h hs)))
theorem J_ite {c : Prop} [Decidable c] {a b : aR} (ha : J a.2) (hb : J b.2) : J (if c then a else b).2 := by
  split
  · exact ha
  · exact hb
theorem J_cond (hJ : JC P J) {r : aR} {g : Int32 → aS → aR} (h : J r.2) (hg : ∀ (v : Int32) (s1 : aS), J s1 → J (g v s1).2) : J (e_cond r g).2 := by
  unfold e_cond e_bv
  exact J_bd h (J_vec hJ (fun xs s1 h1 => J_ite (hJ.1 _ _ h1) (hg _ _ h1)))
theorem J_whl (hJ : JC P J) (hf : MJ J f) (e i : Nat) : ∀ (r : Nat) (s : aS), J s → J (e_whl P f e i r s).2
  | 0, _, h => hJ.1 _ _ h
  | r + 1, s, h => by
    unfold e_whl
    exact J_cond hJ (hf _ _ _ h) (fun x s1 h1 => J_ite h1 (J_bd (hf _ _ _ h1) (fun _ s2 h2 => J_whl hJ hf e i r s2 h2)))
theorem J_take (hJ : JC P J) {s : aS} (i : Nat) (h : J s) : J (e_take s i).2 := by
  unfold e_take
  split
  · exact h
  · split
    · exact hJ.2.2.2.2.1 _ _ h
    · exact h
theorem J_cb (hJ : JC P J) {s : aS} (e : Nat) (u v : aV) (h : J s) : J (e_cb P e u v s).2 := by
  rcases e_cb_r (P := P) (s := s) (e := e) (u := u) (v := v) with ⟨v', h1⟩ | ⟨z, _, h1⟩
  · rw [h1]; exact h
  · rw [h1]; exact hJ.1 _ _ h
theorem J_rpl (hJ : JC P J) (hf : MJ J f) (e i : Nat) (u v : aV) (s : aS) (h : J s) : J (e_rpl P f e i u v s).2 := by
  cases u with
  | inr g => exact hJ.1 _ _ h
  | inl ys =>
    cases v with
    | inr g => exact hJ.1 _ _ h
    | inl zs =>
      show J (e_bd (e_old P f e i s) (fun o s3 => e_rpo o ys zs s3 i (tN (pa P e)))).2
      refine J_bd ?_ (fun o s3 h3 => ?_)
      · unfold e_old
        split
        · exact h
        · exact J_val hJ hf _ _ h
      · cases o with
        | inr g => exact hJ.1 _ _ h3
        | inl xs =>
          show J (e_sto xs ys zs s3 i (tN (pa P e))).2
          unfold e_sto
          split
          · exact hJ.1 _ _ h3
          · exact h3
          · exact hJ.2.1 _ _ _ _ h3
theorem J_ent (hJ : JC P J) (hf : MJ J f) (s1 : aS) (e i : Nat) (fn : Nat × Nat × Nat) (h : J s1) : J (e_ent P f s1 e i fn).2 := by
  unfold e_ent
  refine J_ite (hJ.1 _ _ h) (J_ite (hJ.1 _ _ h) ?_)
  have := hf (e_new P s1 e i fn) (tN (pa P fn.1)) (sN s1 + 1) (hJ.2.2.2.2.2.2.2.2 _ _ _ _ h)
  split
  · exact hJ.2.2.2.2.2.2.1 _ _ _ this
  · exact J_take hJ _ (hJ.2.2.2.2.2.2.1 _ _ _ this)
theorem J_try (hJ : JC P J) (hf : MJ J f) (s : aS) (e i : Nat) (h : J s) : J (e_try P f s e i).2 := by
  unfold e_try
  have h1 := hf s (tN (pa P e)) i h
  split
  · exact h1
  · exact J_ite h1 (hf _ _ _ (hJ.1 _ _ (hJ.2.1 _ _ _ _ h1)))
theorem J_abs (hJ : JC P J) (s : aS) (e i : Nat) (h : J s) : J (e_abs P s e i).2 := by
  unfold e_abs
  split
  · exact hJ.1 _ _ h
  · exact J_ite (hJ.1 _ _ h) (J_ite (hJ.1 _ _ h) h)
theorem J_stp (hJ : JC P J) (hf : MJ J f) (s : aS) (e i : Nat) (h : J s) : J (e_stp P f s e i).2 := by
  unfold e_stp
  refine J_ite h (J_ite h (J_ite h (J_ite ?_ (J_ite ?_ (J_ite ?_ (J_ite ?_ (J_ite ?_ (J_ite (J_whl hJ hf e i 401 s h) (J_ite ?_ (J_ite (hJ.2.2.2.2.2.1 _ _ h) (J_ite ?_ (J_ite (J_abs hJ _ _ _ h) (J_ite ?_ (J_ite (J_try hJ hf _ _ _ h) ?_))))))))))))))
  · unfold e_read
    split
    · exact hJ.1 _ _ h
    · exact J_val hJ hf _ _ h
  · unfold e_asg
    exact J_bd (hf _ _ _ h) (fun _ _ h1 => hJ.2.1 _ _ _ _ h1)
  · unfold e_one e_bv
    exact J_bd (hf _ _ _ h) (J_vec hJ (fun xs s1 h1 => J_ite h1 (J_ite h1 (J_ite h1 (hJ.1 _ _ h1)))))
  · unfold e_repl
    exact J_bd (hf _ _ _ h) (fun u s1 h1 => J_bd (hf _ _ _ h1) (fun v s2 h2 => J_rpl hJ hf e i u v s2 h2))
  · unfold e_if
    exact J_cond hJ (hf _ _ _ h) (fun x s1 h1 => J_ite (J_ite h1 (hf _ _ _ h1)) (hf _ _ _ h1))
  · unfold e_then
    exact J_bd (hf _ _ _ h) (fun _ s1 h1 => hf _ _ _ h1)
  · unfold e_call
    refine J_bd (hf _ _ _ h) (fun v s1 h1 => ?_)
    cases v with
    | inl xs => exact hJ.1 _ _ h1
    | inr fn => exact J_ent hJ hf s1 e i fn h1
  · unfold e_ret
    exact J_bd (hf _ _ _ h) (fun v s1 h1 => J_ite (hJ.1 _ _ h1) (hJ.2.2.2.2.1 _ _ h1))
  · unfold e_two
    exact J_bd (hf _ _ _ h) (fun u s1 h1 => J_bd (hf _ _ _ h1) (fun v s2 h2 => J_cb hJ e u v h2))
theorem J_ev (hJ : JC P J) : ∀ d : Nat, MJ J (e_ev P d)
  | 0 => fun _ _ _ h => hJ.1 _ _ h
  | d + 1 => fun s e i h => by
    unfold e_ev
    exact J_ite (hJ.1 _ _ h) (J_stp hJ (J_ev hJ d) (uT s (sT s + 1)) e i (hJ.2.2.2.2.2.2.2.1 _ _ h))
theorem J_run (hJ : JC P J) (s : aS) (e : Nat) (h : J s) : J (e_run P s e).2 := by
  unfold e_run
  have h1 := J_ev hJ 40 (uX (uA (uT s 0) 0) 0) e 0 (hJ.1 _ _ (hJ.2.2.2.1 _ _ (hJ.2.2.2.2.2.2.2.1 _ _ h)))
  split
  · exact h1
  · exact J_take hJ 0 h1
/-- the global environment has no arguments -/
def gl (s : aS) : Prop := ∀ (j : Nat) (a : aA), ¬ sL s 0 j = some (.inr a)
theorem gl_JC : JC P gl := by
  refine ⟨fun s z h => h, fun s i j v h j' a => ?_, fun s i j a t o h hs j' a' => ?_, fun s n h => h, fun s o h => h, fun s n h => h, fun s i t h j' a => ?_, fun s n h => h, fun s e i fn h j' a => ?_⟩
  · rw [sL_uL]
    split
    · intro q; cases q
    · exact h j' a
  · rw [sL_uL]
    split
    · rename_i hc
      obtain ⟨rfl, rfl⟩ := hc
      exact absurd hs (h _ _)
    · exact h j' a'
  · rw [sL_uO]
    exact h j' a
  · have : (e_new P s e i fn).1 0 = s.1 0 := by rw [e1_new, if_neg (by omega)]
    unfold sL
    rw [this]
    exact h j' a
theorem gl_run {s : aS} {e : Nat} (h : gl s) : gl (e_run P s e).2 := J_run gl_JC s e h
end PV
