/-! ===== pure rows: numbers, guards, loops ===== -/
theorem gs_gd_t {α : Type} {b : Bool} {x : Option α} (h : b = true) : gs_gd b x = x := by rw [gs_gd, if_pos h]
theorem gs_in_nI {i n : Nat} (h : i < n) (hn : n < 2 ^ 31) : gs_in (nI i) n = true := decide_eq_true (nI_in h hn)
theorem gs_mul (a b : Nat) : nI a * nI b = nI (a * b) := (Int32.ofNat_mul a b).symm
theorem gs_b1_s {α β : Type} {a : α} {k : α → Option β} : gs_b1 (some a) k = k a := rfl
/-- f at i, i + 1 .. k times -/
def gs_fo {α : Type} (f : Nat → α → α) : Nat → Nat → α → α
  | 0, _, a => a
  | k + 1, i, a => gs_fo f k (i + 1) (f i a)
theorem gs_fo_congr {α : Type} {f g : Nat → α → α} : ∀ (k i : Nat) (a : α), (∀ j, i ≤ j → j < i + k → ∀ a, f j a = g j a) → gs_fo f k i a = gs_fo g k i a
  | 0, _, _, _ => rfl
  | k + 1, i, a, h => by
    rw [gs_fo, gs_fo, h i (Nat.le_refl _) (by omega) a]
    exact gs_fo_congr k (i + 1) _ (fun j h1 h2 => h j (by omega) (by omega))
theorem gs_fuel_eq : gs_fuel = 20000 := rfl
theorem gs_fill_loop (n : Nat) (hn : n < 2 ^ 31) (x : Int32) : ∀ (k i : Nat) (r : Nat → Int32) (fu : Nat), i + k = n → k < fu → gs_it (fun _ _ => none) (f_J7_fill_53178_5 n x (nI n)) fu (nI i) r = some (fun j => if i ≤ j ∧ j < n then x else r j) := by
  intro k
  induction k with
  | zero =>
    intro i r fu h1 h2
    obtain ⟨fu, rfl⟩ : ∃ f, fu = f + 1 := ⟨fu - 1, by omega⟩
    have hi : i = n := by omega
    subst hi
    rw [gs_it_s]
    unfold f_J7_fill_53178_5
    rw [if_pos (nI_le (Nat.le_refl _) hn)]
    refine congrArg some (funext fun j => ?_)
    rw [if_neg (by omega)]
  | succ k ih =>
    intro i r fu h1 h2
    obtain ⟨fu, rfl⟩ : ∃ f, fu = f + 1 := ⟨fu - 1, by omega⟩
    rw [gs_it_s]
    unfold f_J7_fill_53178_5
    rw [if_neg (nI_ge (by omega) hn), gs_gd_t (gs_in_nI (by omega) hn), nI_1, nI_clamp (by omega)]
    rw [ih (i + 1) _ fu (by omega) (by omega)]
    refine congrArg some (funext fun j => ?_)
    unfold upd
    by_cases hj : j = i
    · subst hj
      rw [if_neg (by omega), if_pos rfl, if_pos (by omega)]
    · by_cases hb : i + 1 ≤ j ∧ j < n
      · rw [if_pos hb, if_pos (by omega)]
      · rw [if_neg hb, if_neg hj, if_neg (by omega)]
theorem gs_fill {n : Nat} (hn : n < 20000) (x : Int32) (r : Nat → Int32) : f_J7_fill_53178 n x r = some (fun j => if j < n then x else r j) := by
  unfold f_J7_fill_53178
  have h := gs_fill_loop n (by omega) x n 0 r gs_fuel (by omega) (by rw [gs_fuel_eq]; exact hn)
  rw [nI_0] at h
  rw [show Int32.ofNat n = nI n from rfl, h]
  refine congrArg some (funext fun j => ?_)
  by_cases hj : j < n
  · rw [if_pos hj, if_pos ⟨Nat.zero_le _, hj⟩]
  · rw [if_neg hj, if_neg (fun h => hj h.2)]
theorem gs_clear_r (r : Nat → Int32) : f_X7_clear r = some (upd (fun j => if j < 78 then -1 else r j) 0 0) := by
  unfold f_X7_clear
  rw [gs_fill (by omega), gs_b1_s, gs_gd_t (by decide)]
  rfl
