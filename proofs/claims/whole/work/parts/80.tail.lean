/-! the law: how a call's two answers are held against each other -/
section LT
variable {dA : Nat → ClassId} {U : yU} {b : Nat → Nat} {w : ww_W} {S : mm} {K N d v o k n : Nat} {Q : zQ} {kx bx i9 : Int32} {f : Nat → Int64}
theorem lgc_self (x : Int64) : lg_cmp x x = 0 := by
  unfold lg_cmp
  rw [if_neg Int64.lt_irrefl, if_pos rfl]
set_option maxRecDepth 100000 in
theorem tl_expression (hb : mB b) (hw : mw dA b w S = w) (hS : S.1 0 = kx) (ho : w o = some (orow dA f)) (hf : kx = 0 → f 0 = bx.toInt64) (hd : 1 ≤ d) (hk : k ≤ K) (hn : n ≤ N) (hnx : zy dA U d K N Y_law 494 [some (.ref U.1), some (.ref v), some (.ref (b 0)), some (.ref o), some (.int i9), some (.int kx), some (.int bx)] [] w k n Q) : zy dA U d K N Y_law 146 [some (.ref U.1), some (.ref v), some (.ref (b 0)), some (.ref o), some (.int i9), some (.int kx), some (.int bx)] [.ref (b 0)] w k n Q := by
  have hth := r_thrownR (dA := dA) (w := w) (S := S) (d := 0) hb
  rw [hw] at hth
  have hob : w (b 0) = some (.inr (C_Model, mF b S)) := mw_e hb hw (k := 0) rfl
  refine y_cVk [] [] 0 0 0 rfl hob rfl rfl (Nat.le_of_ble_eq_true rfl) (Nat.le_of_ble_eq_true rfl) (by omega) (by omega) (by omega) (hth _ ⟨_, rfl, ?_⟩)
  repeat refine y_i rfl rfl ?_
  refine y_bt rfl rfl hS ?_
  repeat refine y_i rfl rfl ?_
  by_cases hz : kx = 0
  · refine y_bf rfl rfl (fun q => q hz) ?_
    repeat refine y_i rfl rfl ?_
    refine y_lald (j := 0) rfl ho rfl (by decide) (by decide) ?_
    repeat refine y_i rfl rfl ?_
    refine y_bt rfl rfl (show lg_cmp (f 0) bx.toInt64 = 0 by rw [hf hz]; exact lgc_self _) ?_
    refine y_j rfl ?_
    exact hnx
  · refine y_bt rfl rfl hz ?_
    refine y_j rfl ?_
    exact hnx
set_option maxRecDepth 100000 in
theorem tl_run (hb : mB b) (hw : mw dA b w S = w) (hS : S.1 0 = kx) (ho : w o = some (orow dA f)) (hf : kx = 0 → f 0 = bx.toInt64) (hd : 1 ≤ d) (hk : k ≤ K) (hn : n ≤ N) (hnx : zy dA U d K N Y_law 494 [some (.ref U.1), some (.ref v), some (.ref (b 0)), some (.ref o), some (.int i9), some (.int kx), some (.int bx)] [] w k n Q) : zy dA U d K N Y_law 202 [some (.ref U.1), some (.ref v), some (.ref (b 0)), some (.ref o), some (.int i9), some (.int kx), some (.int bx)] [.ref (b 0)] w k n Q := by
  have hth := r_thrownR (dA := dA) (w := w) (S := S) (d := 0) hb
  rw [hw] at hth
  have hob : w (b 0) = some (.inr (C_Model, mF b S)) := mw_e hb hw (k := 0) rfl
  refine y_cVk [] [] 0 0 0 rfl hob rfl rfl (Nat.le_of_ble_eq_true rfl) (Nat.le_of_ble_eq_true rfl) (by omega) (by omega) (by omega) (hth _ ⟨_, rfl, ?_⟩)
  repeat refine y_i rfl rfl ?_
  refine y_bt rfl rfl hS ?_
  repeat refine y_i rfl rfl ?_
  by_cases hz : kx = 0
  · refine y_bf rfl rfl (fun q => q hz) ?_
    repeat refine y_i rfl rfl ?_
    refine y_lald (j := 0) rfl ho rfl (by decide) (by decide) ?_
    repeat refine y_i rfl rfl ?_
    refine y_bt rfl rfl (show lg_cmp (f 0) bx.toInt64 = 0 by rw [hf hz]; exact lgc_self _) ?_
    refine y_j rfl ?_
    exact hnx
  · refine y_bt rfl rfl hz ?_
    refine y_j rfl ?_
    exact hnx
set_option maxRecDepth 100000 in
theorem tl_element (hb : mB b) (hw : mw dA b w S = w) (hS : S.1 0 = kx) (ho : w o = some (orow dA f)) (hf : kx = 0 → f 0 = bx.toInt64) (hd : 1 ≤ d) (hk : k ≤ K) (hn : n ≤ N) (hnx : zy dA U d K N Y_law 494 [some (.ref U.1), some (.ref v), some (.ref (b 0)), some (.ref o), some (.int i9), some (.int kx), some (.int bx)] [] w k n Q) : zy dA U d K N Y_law 258 [some (.ref U.1), some (.ref v), some (.ref (b 0)), some (.ref o), some (.int i9), some (.int kx), some (.int bx)] [.ref (b 0)] w k n Q := by
  have hth := r_thrownR (dA := dA) (w := w) (S := S) (d := 0) hb
  rw [hw] at hth
  have hob : w (b 0) = some (.inr (C_Model, mF b S)) := mw_e hb hw (k := 0) rfl
  refine y_cVk [] [] 0 0 0 rfl hob rfl rfl (Nat.le_of_ble_eq_true rfl) (Nat.le_of_ble_eq_true rfl) (by omega) (by omega) (by omega) (hth _ ⟨_, rfl, ?_⟩)
  repeat refine y_i rfl rfl ?_
  refine y_bt rfl rfl hS ?_
  repeat refine y_i rfl rfl ?_
  by_cases hz : kx = 0
  · refine y_bf rfl rfl (fun q => q hz) ?_
    repeat refine y_i rfl rfl ?_
    refine y_lald (j := 0) rfl ho rfl (by decide) (by decide) ?_
    repeat refine y_i rfl rfl ?_
    refine y_bt rfl rfl (show lg_cmp (f 0) bx.toInt64 = 0 by rw [hf hz]; exact lgc_self _) ?_
    refine y_j rfl ?_
    exact hnx
  · refine y_bt rfl rfl hz ?_
    refine y_j rfl ?_
    exact hnx
set_option maxRecDepth 100000 in
theorem tl_variable (hb : mB b) (hw : mw dA b w S = w) (hS : S.1 0 = kx) (ho : w o = some (orow dA f)) (hf : kx = 0 → f 0 = bx.toInt64) (hd : 1 ≤ d) (hk : k ≤ K) (hn : n ≤ N) (hnx : zy dA U d K N Y_law 494 [some (.ref U.1), some (.ref v), some (.ref (b 0)), some (.ref o), some (.int i9), some (.int kx), some (.int bx)] [] w k n Q) : zy dA U d K N Y_law 327 [some (.ref U.1), some (.ref v), some (.ref (b 0)), some (.ref o), some (.int i9), some (.int kx), some (.int bx)] [.ref (b 0)] w k n Q := by
  have hth := r_thrownR (dA := dA) (w := w) (S := S) (d := 0) hb
  rw [hw] at hth
  have hob : w (b 0) = some (.inr (C_Model, mF b S)) := mw_e hb hw (k := 0) rfl
  refine y_cVk [] [] 0 0 0 rfl hob rfl rfl (Nat.le_of_ble_eq_true rfl) (Nat.le_of_ble_eq_true rfl) (by omega) (by omega) (by omega) (hth _ ⟨_, rfl, ?_⟩)
  repeat refine y_i rfl rfl ?_
  refine y_bt rfl rfl hS ?_
  repeat refine y_i rfl rfl ?_
  by_cases hz : kx = 0
  · refine y_bf rfl rfl (fun q => q hz) ?_
    repeat refine y_i rfl rfl ?_
    refine y_lald (j := 0) rfl ho rfl (by decide) (by decide) ?_
    repeat refine y_i rfl rfl ?_
    refine y_bt rfl rfl (show lg_cmp (f 0) bx.toInt64 = 0 by rw [hf hz]; exact lgc_self _) ?_
    refine y_j rfl ?_
    exact hnx
  · refine y_bt rfl rfl hz ?_
    refine y_j rfl ?_
    exact hnx
set_option maxRecDepth 100000 in
theorem tl_value (hb : mB b) (hw : mw dA b w S = w) (hS : S.1 0 = kx) (ho : w o = some (orow dA f)) (hf : kx = 0 → f 0 = bx.toInt64) (hd : 1 ≤ d) (hk : k ≤ K) (hn : n ≤ N) (hnx : zy dA U d K N Y_law 494 [some (.ref U.1), some (.ref v), some (.ref (b 0)), some (.ref o), some (.int i9), some (.int kx), some (.int bx)] [] w k n Q) : zy dA U d K N Y_law 395 [some (.ref U.1), some (.ref v), some (.ref (b 0)), some (.ref o), some (.int i9), some (.int kx), some (.int bx)] [.ref (b 0)] w k n Q := by
  have hth := r_thrownR (dA := dA) (w := w) (S := S) (d := 0) hb
  rw [hw] at hth
  have hob : w (b 0) = some (.inr (C_Model, mF b S)) := mw_e hb hw (k := 0) rfl
  refine y_cVk [] [] 0 0 0 rfl hob rfl rfl (Nat.le_of_ble_eq_true rfl) (Nat.le_of_ble_eq_true rfl) (by omega) (by omega) (by omega) (hth _ ⟨_, rfl, ?_⟩)
  repeat refine y_i rfl rfl ?_
  refine y_bt rfl rfl hS ?_
  repeat refine y_i rfl rfl ?_
  by_cases hz : kx = 0
  · refine y_bf rfl rfl (fun q => q hz) ?_
    repeat refine y_i rfl rfl ?_
    refine y_lald (j := 0) rfl ho rfl (by decide) (by decide) ?_
    repeat refine y_i rfl rfl ?_
    refine y_bt rfl rfl (show lg_cmp (f 0) bx.toInt64 = 0 by rw [hf hz]; exact lgc_self _) ?_
    refine y_j rfl ?_
    exact hnx
  · refine y_bt rfl rfl hz ?_
    refine y_j rfl ?_
    exact hnx
set_option maxRecDepth 100000 in
theorem tl_count (hb : mB b) (hw : mw dA b w S = w) (hS : S.1 0 = kx) (ho : w o = some (orow dA f)) (hf : kx = 0 → f 0 = bx.toInt64) (hd : 1 ≤ d) (hk : k ≤ K) (hn : n ≤ N) (hnx : zy dA U d K N Y_law 494 [some (.ref U.1), some (.ref v), some (.ref (b 0)), some (.ref o), some (.int i9), some (.int kx), some (.int bx)] [] w k n Q) : zy dA U d K N Y_law 464 [some (.ref U.1), some (.ref v), some (.ref (b 0)), some (.ref o), some (.int i9), some (.int kx), some (.int bx)] [.ref (b 0)] w k n Q := by
  have hth := r_thrownR (dA := dA) (w := w) (S := S) (d := 0) hb
  rw [hw] at hth
  have hob : w (b 0) = some (.inr (C_Model, mF b S)) := mw_e hb hw (k := 0) rfl
  refine y_cVk [] [] 0 0 0 rfl hob rfl rfl (Nat.le_of_ble_eq_true rfl) (Nat.le_of_ble_eq_true rfl) (by omega) (by omega) (by omega) (hth _ ⟨_, rfl, ?_⟩)
  repeat refine y_i rfl rfl ?_
  refine y_bt rfl rfl hS ?_
  repeat refine y_i rfl rfl ?_
  by_cases hz : kx = 0
  · refine y_bf rfl rfl (fun q => q hz) ?_
    repeat refine y_i rfl rfl ?_
    refine y_lald (j := 0) rfl ho rfl (by decide) (by decide) ?_
    repeat refine y_i rfl rfl ?_
    refine y_bt rfl rfl (show lg_cmp (f 0) bx.toInt64 = 0 by rw [hf hz]; exact lgc_self _) ?_
    refine y_j rfl ?_
    exact hnx
  · refine y_bt rfl rfl hz ?_
    refine y_j rfl ?_
    exact hnx
end LT
