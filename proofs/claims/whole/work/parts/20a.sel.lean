/-! ===== choosing cells of a world by a row of bits ===== -/
def gs_ix : Nat → List Bool → List Nat
  | _, [] => []
  | n, true :: m => n :: gs_ix (n + 1) m
  | n, false :: m => gs_ix (n + 1) m
def gs_pick : List Bool → va_W → va_W
  | true :: m, x :: ws => x :: gs_pick m ws
  | false :: m, _ :: ws => gs_pick m ws
  | _, _ => []
def gs_sel : List Bool → va_W → va_W → va_W
  | true :: m, _ :: ws, q :: w => q :: gs_sel m ws w
  | false :: m, x :: ws, w => x :: gs_sel m ws w
  | _, ws, _ => ws
theorem gs_ix_ge : ∀ (m : List Bool) (n j : Nat), j ∈ gs_ix n m → n ≤ j
  | [], n, j, h => by cases h
  | true :: m, n, j, h => by
    rw [gs_ix] at h
    rcases List.mem_cons.mp h with h | h
    · omega
    · have := gs_ix_ge m (n + 1) j h
      omega
  | false :: m, n, j, h => by
    rw [gs_ix] at h
    have := gs_ix_ge m (n + 1) j h
    omega
theorem gs_nd : ∀ (n : Nat) (m : List Bool), va_nd (gs_ix n m) = true
  | n, [] => rfl
  | n, true :: m => by
    rw [gs_ix, va_nd, gs_nd (n + 1) m]
    have : n ∉ gs_ix (n + 1) m := fun h => by
      have := gs_ix_ge m (n + 1) n h
      omega
    simp [this]
  | n, false :: m => by
    rw [gs_ix]
    exact gs_nd (n + 1) m
theorem gs_pick_at : ∀ (m : List Bool) (pre ws : va_W), m.length ≤ ws.length → (gs_ix pre.length m).map (fun i => (pre ++ ws)[i]?) = (gs_pick m ws).map some
  | [], pre, ws, h => by
    cases ws <;> rfl
  | true :: m, pre, [], h => by simp at h
  | false :: m, pre, [], h => by simp at h
  | true :: m, pre, x :: ws, h => by
    have ih := gs_pick_at m (pre ++ [x]) ws (by simpa using h)
    rw [gs_ix, gs_pick, List.map_cons, List.map_cons]
    have e1 : (pre ++ x :: ws)[pre.length]? = some x := by simp
    rw [e1]
    rw [List.append_assoc, List.length_append] at ih
    exact congrArg (some x :: ·) ih
  | false :: m, pre, x :: ws, h => by
    have ih := gs_pick_at m (pre ++ [x]) ws (by simpa using h)
    rw [gs_ix, gs_pick]
    rw [List.append_assoc, List.length_append] at ih
    exact ih
theorem gs_sel_at : ∀ (m : List Bool) (pre ws w : va_W), m.length ≤ ws.length → gs_place (pre ++ ws) (gs_ix pre.length m) w = pre ++ gs_sel m ws w
  | [], pre, ws, w, h => by
    rw [gs_ix, gs_place]
    · cases ws <;> rfl
    · intros; contradiction
  | true :: m, pre, [], w, h => by simp at h
  | false :: m, pre, [], w, h => by simp at h
  | true :: m, pre, x :: ws, [], h => by
    rw [gs_ix, gs_place]
    · rfl
    · intros; contradiction
  | true :: m, pre, x :: ws, q :: w, h => by
    have ih := gs_sel_at m (pre ++ [q]) ws w (by simpa using h)
    rw [gs_ix, gs_place, gs_sel]
    have e1 : (pre ++ x :: ws).set pre.length q = pre ++ [q] ++ ws := by simp
    rw [e1]
    rw [List.length_append] at ih
    have e2 : pre ++ q :: gs_sel m ws w = pre ++ [q] ++ gs_sel m ws w := by simp
    rw [e2]
    exact ih
  | false :: m, pre, x :: ws, w, h => by
    have ih := gs_sel_at m (pre ++ [x]) ws w (by simpa using h)
    rw [gs_ix]
    have e0 : gs_sel (false :: m) (x :: ws) w = x :: gs_sel m ws w := by cases w <;> rfl
    rw [e0]
    rw [List.length_append] at ih
    have e1 : pre ++ x :: ws = pre ++ [x] ++ ws := by simp
    have e2 : pre ++ x :: gs_sel m ws w = pre ++ [x] ++ gs_sel m ws w := by simp
    rw [e1, e2]
    exact ih
theorem gs_hC {m : List Bool} {ws w : va_W} (hl : Nat.ble m.length ws.length = true) (h : gs_pick m ws = w) : (gs_ix 0 m).map (fun i => ws[i]?) = w.map some := by
  rw [← h]
  exact gs_pick_at m [] ws (Nat.le_of_ble_eq_true hl)
theorem gs_hw {m : List Bool} {ws w ws1 : va_W} (hl : Nat.ble m.length ws.length = true) (h : gs_sel m ws w = ws1) : gs_place ws (gs_ix 0 m) w = ws1 := by
  rw [← h]
  exact gs_sel_at m [] ws w (Nat.le_of_ble_eq_true hl)
