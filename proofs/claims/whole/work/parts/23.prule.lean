/-! ===== pure rows: a rule, its steps, what it comes to ===== -/
/-- a step: below 10000 a number; from 10000 on a value; from 20000 on or, and, not, <, =, +, -, *, / -/
def g_cs (t : Nat) : Int32 := if t < 10000 then nI t else if t < 20000 then -1 - nI (t - 10000) else -20 - nI (t - 20000)
def g_mv (v : Nat) : Nat := if v = 1 then 4 else if v = 2 then 1 else if v = 3 then 5 else if v = 4 then 2 else if v = 5 then 3 else v
def g_mo (o : Nat) : Nat := if o = 0 then 5 else if o = 1 then 4 else if o = 2 then 3 else 3 + o
def g_jn (t : Nat) (x y : Int32) : Int32 :=
  if t = 20000 then (if x = 0 then (if y = 0 then 0 else 1) else 1)
  else if t = 20001 then (if x = 0 then 0 else (if y = 0 then 0 else 1))
  else if t = 20003 then (if y ≤ x then 0 else 1)
  else if t = 20004 then (if x = y then 1 else 0)
  else if t = 20005 then x + y
  else if t = 20006 then x - y
  else if t = 20007 then x * y
  else (if y = 0 then 0 else x / y)
def g_ev1 (vals : Nat → Int32) (t : Nat) (st : List Int32) : List Int32 :=
  if t < 10000 then nI t :: st
  else if t < 20000 then vals (t - 10000) :: st
  else if t = 20002 then (match st with | x :: r => (if x = 0 then 1 else 0) :: r | [] => [])
  else (match st with | y :: x :: r => g_jn t x y :: r | _ => [])
def g_ev (vals : Nat → Int32) : List Nat → List Int32 → List Int32
  | [], st => st
  | t :: c, st => g_ev vals c (g_ev1 vals t st)
def g_ok : List Nat → Nat → Prop
  | [], h => h = 1
  | t :: c, h => if t < 10000 then h < 64 ∧ g_ok c (h + 1)
    else if t < 20000 then t < 10009 ∧ h < 64 ∧ g_ok c (h + 1)
    else if t = 20002 then 1 ≤ h ∧ g_ok c h
    else t < 20009 ∧ 2 ≤ h ∧ g_ok c (h - 1)
def g_seg (code : Nat → Int32) : Nat → List Nat → Prop
  | _, [] => True
  | i, t :: c => code i = g_cs t ∧ g_seg code (i + 1) c
def m_seg (code : Nat → Int32) : Nat → List Nat → Prop
  | k, [] => code k = 0
  | k, t :: c => if t < 10000 then code k = 1 ∧ code (k + 1) = nI t ∧ m_seg code (k + 2) c
    else if t < 20000 then code k = 2 ∧ code (k + 1) = nI (g_mv (t - 10000)) ∧ m_seg code (k + 2) c
    else code k = nI (g_mo (t - 20000)) ∧ m_seg code (k + 1) c
/-- a pile: the top is ahead -/
def g_stk (a : Nat → Int32) : List Int32 → Prop
  | [] => True
  | x :: r => a r.length = x ∧ g_stk a r
theorem g_stk_upd {a : Nat → Int32} {j : Nat} {x : Int32} : ∀ {st : List Int32}, g_stk a st → st.length ≤ j → g_stk (upd a j x) st
  | [], _, _ => trivial
  | y :: r, h, hl => by
    have hl' : r.length + 1 ≤ j := hl
    exact ⟨by unfold upd; rw [if_neg (by omega)]; exact h.1, g_stk_upd h.2 (by omega)⟩
theorem r_neg {t : Nat} (h : t < 2 ^ 31) : ((-1 : Int32) - nI t).toInt = -1 - (t : Int) := by
  rw [Int32.toInt_sub, nI_toInt h, show (-1 : Int32).toInt = -1 from by decide]
  exact Int.bmod_eq_of_le_mul_two (by omega) (by omega)
theorem r_n9 {t : Nat} (h : t < 2 ^ 31) : ¬ (9 : Int32) ≤ (-1) - nI t := by
  rw [Int32.le_iff_toInt_le, r_neg h, show (9 : Int32).toInt = 9 from by decide]
  omega
theorem r_n0 {t : Nat} (h : t < 2 ^ 31) : ¬ (0 : Int32) ≤ (-1) - nI t := by
  rw [Int32.le_iff_toInt_le, r_neg h, show (0 : Int32).toInt = 0 from by decide]
  omega
theorem r_val : ∀ v, v < 9 → (¬ (9 : Int32) ≤ (-1) - ((-1) - nI v)) ∧ (0 : Int32) ≤ (-1) - ((-1) - nI v) ∧ (-1 : Int32) - ((-1) - nI v) = nI v := by decide +kernel
theorem r_op : ∀ o, o < 9 → (9 : Int32) ≤ (-1) - (-20 - nI o) := by decide +kernel
theorem r_not : ∀ o, o < 9 → ((-20 - nI o : Int32) = -22 ↔ o = 2) := by decide +kernel
theorem r_j0 (x y : Int32) : f_X6_joined (-20) x y = some (g_jn 20000 x y) := by
  unfold f_X6_joined
  rw [if_neg (by decide), if_neg (by decide), if_neg (by decide), if_neg (by decide), if_neg (by decide), if_neg (by decide), if_neg (by decide), if_pos rfl]
  show _ = some (if x = 0 then (if y = 0 then 0 else 1) else 1)
  split
  · split <;> rfl
  · rfl
theorem r_j1 (x y : Int32) : f_X6_joined (-21) x y = some (g_jn 20001 x y) := by
  unfold f_X6_joined
  rw [if_neg (by decide), if_neg (by decide), if_neg (by decide), if_neg (by decide), if_neg (by decide), if_neg (by decide), if_pos rfl]
  show _ = some (if x = 0 then 0 else (if y = 0 then 0 else 1))
  split
  · rfl
  · split <;> rfl
theorem r_j3 (x y : Int32) : f_X6_joined (-23) x y = some (g_jn 20003 x y) := by
  unfold f_X6_joined
  rw [if_neg (by decide), if_neg (by decide), if_neg (by decide), if_neg (by decide), if_pos rfl]
  show _ = some (if y ≤ x then 0 else 1)
  split <;> rfl
theorem r_j4 (x y : Int32) : f_X6_joined (-24) x y = some (g_jn 20004 x y) := by
  unfold f_X6_joined
  rw [if_neg (by decide), if_neg (by decide), if_neg (by decide), if_pos rfl]
  show _ = some (if x = y then 1 else 0)
  split <;> rfl
theorem r_j5 (x y : Int32) : f_X6_joined (-25) x y = some (g_jn 20005 x y) := by
  unfold f_X6_joined
  rw [if_neg (by decide), if_neg (by decide), if_pos rfl]
  show _ = some (x + y)
  rfl
theorem r_j6 (x y : Int32) : f_X6_joined (-26) x y = some (g_jn 20006 x y) := by
  unfold f_X6_joined
  rw [if_neg (by decide), if_pos rfl]
  show _ = some (x - y)
  rfl
theorem r_j7 (x y : Int32) : f_X6_joined (-27) x y = some (g_jn 20007 x y) := by
  unfold f_X6_joined
  rw [if_pos rfl]
  show _ = some (x * y)
  rfl
theorem r_j8 (x y : Int32) : f_X6_joined (-28) x y = some (g_jn 20008 x y) := by
  unfold f_X6_joined
  rw [if_neg (by decide), if_neg (by decide), if_neg (by decide), if_neg (by decide), if_neg (by decide), if_neg (by decide), if_neg (by decide), if_neg (by decide)]
  show _ = some (if y = 0 then 0 else x / y)
  split
  · rfl
  · rename_i h
    rw [gs_gd_t (decide_eq_true h)]
theorem r_joined {o : Nat} (ho : o < 9) (h2 : o ≠ 2) (x y : Int32) : f_X6_joined (-20 - nI o) x y = some (g_jn (20000 + o) x y) := by
  have : o = 0 ∨ o = 1 ∨ o = 3 ∨ o = 4 ∨ o = 5 ∨ o = 6 ∨ o = 7 ∨ o = 8 := by omega
  rcases this with h | h | h | h | h | h | h | h <;> subst h
  · exact r_j0 x y
  · exact r_j1 x y
  · exact r_j3 x y
  · exact r_j4 x y
  · exact r_j5 x y
  · exact r_j6 x y
  · exact r_j7 x y
  · exact r_j8 x y
theorem r_k0 (x y : Int32) : f_X12_works 5 x y = some (g_jn 20000 x y) := by
  unfold f_X12_works
  rw [if_neg (by decide), if_pos rfl]
  show _ = some (if x = 0 then (if y = 0 then 0 else 1) else 1)
  split
  · split <;> rfl
  · rfl
theorem r_k1 (x y : Int32) : f_X12_works 4 x y = some (g_jn 20001 x y) := by
  unfold f_X12_works
  rw [if_pos rfl]
  show _ = some (if x = 0 then 0 else (if y = 0 then 0 else 1))
  split
  · rfl
  · split <;> rfl
theorem r_k3 (x y : Int32) : f_X12_works 6 x y = some (g_jn 20003 x y) := by
  unfold f_X12_works
  rw [if_neg (by decide), if_neg (by decide), if_pos rfl]
  show _ = some (if y ≤ x then 0 else 1)
  split <;> rfl
theorem r_k4 (x y : Int32) : f_X12_works 7 x y = some (g_jn 20004 x y) := by
  unfold f_X12_works
  rw [if_neg (by decide), if_neg (by decide), if_neg (by decide), if_pos rfl]
  show _ = some (if x = y then 1 else 0)
  split <;> rfl
theorem r_k5 (x y : Int32) : f_X12_works 8 x y = some (g_jn 20005 x y) := by
  unfold f_X12_works
  rw [if_neg (by decide), if_neg (by decide), if_neg (by decide), if_neg (by decide), if_pos rfl]
  show _ = some (x + y)
  rfl
theorem r_k6 (x y : Int32) : f_X12_works 9 x y = some (g_jn 20006 x y) := by
  unfold f_X12_works
  rw [if_neg (by decide), if_neg (by decide), if_neg (by decide), if_neg (by decide), if_neg (by decide), if_pos rfl]
  show _ = some (x - y)
  rfl
theorem r_k7 (x y : Int32) : f_X12_works 10 x y = some (g_jn 20007 x y) := by
  unfold f_X12_works
  rw [if_neg (by decide), if_neg (by decide), if_neg (by decide), if_neg (by decide), if_neg (by decide), if_neg (by decide), if_pos rfl]
  show _ = some (x * y)
  rfl
theorem r_k8 (x y : Int32) : f_X12_works 11 x y = some (g_jn 20008 x y) := by
  unfold f_X12_works
  rw [if_neg (by decide), if_neg (by decide), if_neg (by decide), if_neg (by decide), if_neg (by decide), if_neg (by decide), if_neg (by decide)]
  show _ = some (if y = 0 then 0 else x / y)
  split
  · rfl
  · rename_i h
    rw [gs_gd_t (decide_eq_true h)]
theorem r_works {o : Nat} (ho : o < 9) (h2 : o ≠ 2) (x y : Int32) : f_X12_works (nI (g_mo o)) x y = some (g_jn (20000 + o) x y) := by
  have : o = 0 ∨ o = 1 ∨ o = 3 ∨ o = 4 ∨ o = 5 ∨ o = 6 ∨ o = 7 ∨ o = 8 := by omega
  rcases this with h | h | h | h | h | h | h | h <;> subst h
  · exact r_k0 x y
  · exact r_k1 x y
  · exact r_k3 x y
  · exact r_k4 x y
  · exact r_k5 x y
  · exact r_k6 x y
  · exact r_k7 x y
  · exact r_k8 x y
theorem g_stk_len {st : List Int32} (h : 1 ≤ st.length) : ∃ x r, st = x :: r := by
  cases st with
  | nil => exact absurd h (by decide)
  | cons x r => exact ⟨x, r, rfl⟩
theorem g_stk_len2 {st : List Int32} (h : 2 ≤ st.length) : ∃ y x r, st = y :: x :: r := by
  cases st with
  | nil => exact absurd h (by decide)
  | cons y r =>
    cases r with
    | nil => exact absurd h (by simp)
    | cons x r => exact ⟨y, x, r, rfl⟩
theorem g_pred (n : Nat) : nI (n + 1) + (-1) = nI n := pk_m1 n
/-- what a rule comes to, by the class -/
theorem r_reckon {code vals : Nat → Int32} {c : List Nat} {i : Nat} (hs : g_seg code i c) (hk : g_ok c 0) (hi : i + c.length ≤ 700) (a : Nat → Int32) : ∃ a', f_X6_reckon 700 (nI i) (nI (i + c.length)) vals a code = some ((g_ev vals c []).headD 0, a') := by
  unfold f_X6_reckon
  have e1 : (if Int32.ofNat 700 < nI (i + c.length) then Int32.ofNat 700 else nI (i + c.length)) = nI (i + c.length) := if_neg (show ¬ Int32.ofNat 700 < nI (i + c.length) from nI_nlt (a := 700) (b := i + c.length) hi (by omega))
  have e2 : (if nI i < 0 then 0 else nI i) = nI i := if_neg (nI_pos (by omega))
  rw [e1, e2]
  generalize he : i + c.length = e at *
  have h := g_run (z := fun _ _ _ => none) (b := f_X6_reckon_18 700 (nI e) vals code (fun (x4' : Int32) (r_t_stack' : Nat → Int32) => f_X6_reckon_170 700 x4' r_t_stack')) (ρ := Int32 × (Nat → Int32)) (σ := List Nat × Nat × List Int32 × (Nat → Int32))
    (fun K x => K (nI x.2.2.1.length) (nI x.2.1) x.2.2.2) (fun x => x.1.length)
    (fun x o => g_seg code x.2.1 x.1 → g_ok x.1 x.2.2.1.length → x.2.1 + x.1.length = e → x.2.2.1.length ≤ 64 → g_stk x.2.2.2 x.2.2.1 → ∃ a', o = some ((g_ev vals x.1 x.2.2.1).headD 0, a'))
    ?_ gs_fuel (c, i, [], a) (by show c.length < gs_fuel; rw [gs_fuel_eq]; omega) hs hk he (by show 0 ≤ 64; omega) trivial
  · have h' : ∃ a', gs_it (fun _ _ _ => none) (f_X6_reckon_18 700 (nI e) vals code (fun (x4' : Int32) (r_t_stack' : Nat → Int32) => f_X6_reckon_170 700 x4' r_t_stack')) gs_fuel (nI 0) (nI i) a = some ((g_ev vals c []).headD 0, a') := h
    rw [nI_0] at h'
    exact h'
  · rintro K ⟨c, i, st, a⟩ ih hs hk he hl ha
    show ∃ a', f_X6_reckon_18 700 (nI e) vals code _ K (nI st.length) (nI i) a = _
    replace hs : g_seg code i c := hs
    replace hk : g_ok c st.length := hk
    replace he : i + c.length = e := he
    replace hl : st.length ≤ 64 := hl
    replace ha : g_stk a st := ha
    cases c with
    | nil =>
      have hi : i = e := he
      subst hi
      have h1 : st.length = 1 := hk
      obtain ⟨x, r, rfl⟩ := g_stk_len (st := st) (by omega)
      have hr : r.length = 0 := by simpa using h1
      unfold f_X6_reckon_18
      rw [if_pos (nI_le (Nat.le_refl _) (by omega))]
      show ∃ a', f_X6_reckon_170 700 (nI (r.length + 1)) a = _
      unfold f_X6_reckon_170
      rw [if_neg (nI_nle (by omega) (by omega)), nI_pred, gs_gd_t (gs_in_nI (by omega) (by decide)), nI_clamp (by omega), ha.1]
      exact ⟨a, rfl⟩
    | cons t c =>
      have he' : i + (c.length + 1) = e := he
      obtain ⟨hs1, hs2⟩ := hs
      have hne : ¬ nI e ≤ nI i := nI_ge (by omega) (by omega)
      unfold f_X6_reckon_18
      rw [if_neg hne, gs_gd_t (gs_in_nI (by omega) (by decide)), nI_clamp (by omega), hs1]
      unfold g_ok at hk
      show ∃ a', _ = some ((g_ev vals c (g_ev1 vals t st)).headD 0, a')
      unfold g_ev1 g_cs
      by_cases h1 : t < 10000
      · rw [if_pos h1] at hk ⊢
        rw [if_pos h1, if_neg (r_n9 (by omega)), if_neg (show ¬ (64 : Int32) ≤ nI st.length from nI_ge (b := 64) hk.1 (by decide)), if_neg (r_n0 (by omega)), gs_gd_t (gs_in_nI hk.1 (by decide)), nI_clamp (by omega), nI_1, nI_1]
        exact ih (c, i + 1, nI t :: st, upd a st.length (nI t)) (Nat.lt_succ_self _) hs2 hk.2 (by show i + 1 + c.length = e; omega) hk.1 ⟨pk_us, g_stk_upd ha (Nat.le_refl _)⟩
      · rw [if_neg h1] at hk ⊢
        rw [if_neg h1]
        by_cases h2 : t < 20000
        · rw [if_pos h2] at hk ⊢
          rw [if_pos h2]
          have hv := r_val (t - 10000) (by omega)
          rw [if_neg hv.1, if_neg (show ¬ (64 : Int32) ≤ nI st.length from nI_ge (b := 64) hk.2.1 (by decide)), if_pos hv.2.1, hv.2.2, gs_gd_t (gs_in_nI (by omega) (by decide)), gs_gd_t (gs_in_nI hk.2.1 (by decide)), nI_clamp (by omega), nI_clamp (by omega), nI_1, nI_1]
          exact ih (c, i + 1, vals (t - 10000) :: st, upd a st.length (vals (t - 10000))) (Nat.lt_succ_self _) hs2 hk.2.2 (by show i + 1 + c.length = e; omega) hk.2.1 ⟨pk_us, g_stk_upd ha (Nat.le_refl _)⟩
        · rw [if_neg h2] at hk ⊢
          rw [if_neg h2]
          by_cases h3 : t = 20002
          · rw [if_pos h3] at hk ⊢
            obtain ⟨x, r, rfl⟩ := g_stk_len (st := st) hk.1
            have hl' : r.length + 1 ≤ 64 := hl
            have e3 : t - 20000 = 2 := by omega
            rw [if_pos (r_op _ (by omega)), if_pos ((r_not _ (by omega)).mpr e3)]
            simp only [List.length_cons, nI_pred]
            rw [if_neg (nI_nle (by omega) (by omega)), gs_gd_t (gs_in_nI (by omega) (by decide)), nI_clamp (by omega), gs_gd_t (gs_in_nI (by omega) (by decide)), gs_gd_t (gs_in_nI (by omega) (by decide)), ha.1, nI_1 i]
            show ∃ a', _ = some ((g_ev vals c ((if x = 0 then 1 else 0) :: r)).headD 0, a')
            have key : ∀ v : Int32, ∃ a', K (nI (r.length + 1)) (nI (i + 1)) (upd a r.length v) = some ((g_ev vals c (v :: r)).headD 0, a') := fun v =>
              ih (c, i + 1, v :: r, upd a r.length v) (Nat.lt_succ_self _) hs2 hk.2 (by show i + 1 + c.length = e; omega) hl ⟨pk_us, g_stk_upd ha.2 (Nat.le_refl _)⟩
            by_cases hx : x = 0
            · rw [if_pos hx, if_pos hx]; exact key 1
            · rw [if_neg hx, if_neg hx]; exact key 0
          · rw [if_neg h3] at hk ⊢
            obtain ⟨y, x, r, rfl⟩ := g_stk_len2 (st := st) hk.2.1
            have hl' : r.length + 1 + 1 ≤ 64 := hl
            have e3 : ¬ t - 20000 = 2 := by omega
            rw [if_pos (r_op _ (by omega)), if_neg (fun q => e3 ((r_not _ (by omega)).mp q))]
            simp only [List.length_cons, g_pred, nI_pred]
            rw [if_neg (show ¬ nI (r.length + 1 + 1) ≤ 1 from nI_ge (a := 1) (by omega) (by omega))]
            have hj := r_joined (o := t - 20000) (by omega) e3 x y
            rw [show 20000 + (t - 20000) = t by omega] at hj
            rw [gs_gd_t (gs_in_nI (by omega) (by decide)), gs_gd_t (gs_in_nI (by omega) (by decide)), nI_clamp (by omega), nI_clamp (by omega), show a (r.length + 1) = y from ha.1, ha.2.1, hj, gs_b1_s, gs_gd_t (gs_in_nI (by omega) (by decide)), nI_1 i]
            exact ih (c, i + 1, g_jn t x y :: r, upd a r.length (g_jn t x y)) (Nat.lt_succ_self _) hs2 hk.2.2 (by show i + 1 + c.length = e; omega) (by show r.length + 1 ≤ 64; omega) ⟨pk_us, g_stk_upd ha.2.2 (Nat.le_refl _)⟩
theorem r_mo : ∀ o, o < 9 → (¬ nI (g_mo o) = 0) ∧ (¬ nI (g_mo o) = 1) ∧ (¬ nI (g_mo o) = 2) ∧ (nI (g_mo o) = 3 ↔ o = 2) := by decide +kernel
theorem r_mv : ∀ v, v < 9 → g_mv v < 9 := by decide
/-- what a rule comes to, by the model -/
theorem r_reckons {code told : Nat → Int32} {c : List Nat} {k : Nat} (hs : m_seg code k c) (hk : g_ok c 0) (hi : k + 2 * c.length < 1400) (a : Nat → Int32) : ∃ a', f_X12_reckons (nI k) code told a = some ((g_ev (fun v => told (g_mv v)) c []).headD 0, a') := by
  unfold f_X12_reckons
  have h := g_run (z := fun _ _ _ => none) (b := f_X12_reckons_4 code told) (ρ := Int32 × (Nat → Int32)) (σ := List Nat × Nat × List Int32 × (Nat → Int32))
    (fun K x => K (nI x.2.2.1.length) (nI x.2.1) x.2.2.2) (fun x => x.1.length)
    (fun x o => m_seg code x.2.1 x.1 → g_ok x.1 x.2.2.1.length → x.2.1 + 2 * x.1.length < 1400 → x.2.2.1.length ≤ 64 → g_stk x.2.2.2 x.2.2.1 → ∃ a', o = some ((g_ev (fun v => told (g_mv v)) x.1 x.2.2.1).headD 0, a'))
    ?_ gs_fuel (c, k, [], a) (by show c.length < gs_fuel; rw [gs_fuel_eq]; omega) hs hk hi (by show 0 ≤ 64; omega) trivial
  · have h' : ∃ a', gs_it (fun _ _ _ => none) (f_X12_reckons_4 code told) gs_fuel (nI 0) (nI k) a = some ((g_ev (fun v => told (g_mv v)) c []).headD 0, a') := h
    rw [nI_0] at h'
    exact h'
  · rintro K ⟨c, k, st, a⟩ ih hs hk he hl ha
    show ∃ a', f_X12_reckons_4 code told K (nI st.length) (nI k) a = _
    replace hs : m_seg code k c := hs
    replace hk : g_ok c st.length := hk
    replace he : k + 2 * c.length < 1400 := he
    replace hl : st.length ≤ 64 := hl
    replace ha : g_stk a st := ha
    cases c with
    | nil =>
      have h1 : st.length = 1 := hk
      obtain ⟨x, r, rfl⟩ := g_stk_len (st := st) (by omega)
      have hr : r.length = 0 := by simpa using h1
      have hs0 : code k = 0 := hs
      have hr0 : r = [] := List.length_eq_zero_iff.mp hr
      subst hr0
      have hx : a 0 = x := ha.1
      unfold f_X12_reckons_4
      rw [gs_gd_t (gs_in_nI (by omega) (by decide)), nI_clamp (by omega), if_pos hs0, gs_gd_t (by decide), show (0 : Int32).toNatClampNeg = 0 from rfl, hx]
      exact ⟨a, rfl⟩
    | cons t c =>
      have he' : k + 2 * (c.length + 1) < 1400 := he
      unfold m_seg at hs
      unfold f_X12_reckons_4
      rw [gs_gd_t (gs_in_nI (by omega) (by decide)), gs_gd_t (gs_in_nI (by omega) (by decide)), nI_clamp (by omega)]
      unfold g_ok at hk
      show ∃ a', _ = some ((g_ev (fun v => told (g_mv v)) c (g_ev1 (fun v => told (g_mv v)) t st)).headD 0, a')
      unfold g_ev1
      by_cases h1 : t < 10000
      · rw [if_pos h1] at hk hs ⊢
        rw [hs.1, if_neg (by decide), if_pos rfl, nI_1 k]
        unfold f_X12_reckons_36
        rw [if_pos rfl, gs_gd_t (gs_in_nI (by omega) (by decide)), gs_gd_t (gs_in_nI (by omega) (by decide)), nI_clamp (by omega), nI_clamp (by omega), hs.2.1, nI_1, nI_1]
        exact ih (c, k + 2, nI t :: st, upd a st.length (nI t)) (Nat.lt_succ_self _) hs.2.2 hk.2 (by show k + 2 + 2 * c.length < 1400; omega) hk.1 ⟨pk_us, g_stk_upd ha (Nat.le_refl _)⟩
      · rw [if_neg h1] at hk hs ⊢
        by_cases h2 : t < 20000
        · rw [if_pos h2] at hk hs ⊢
          rw [hs.1, if_neg (by decide), if_neg (by decide), if_pos rfl, nI_1 k]
          have hv := r_mv (t - 10000) (by omega)
          unfold f_X12_reckons_36
          rw [if_neg (by decide), gs_gd_t (gs_in_nI (by omega) (by decide)), nI_clamp (n := k + 1) (by omega), hs.2.1, gs_gd_t (gs_in_nI hv (by decide)), gs_gd_t (gs_in_nI (by omega) (by decide)), nI_clamp (by omega), nI_clamp (by omega), nI_1, nI_1]
          exact ih (c, k + 2, told (g_mv (t - 10000)) :: st, upd a st.length (told (g_mv (t - 10000)))) (Nat.lt_succ_self _) hs.2.2 hk.2.2 (by show k + 2 + 2 * c.length < 1400; omega) hk.2.1 ⟨pk_us, g_stk_upd ha (Nat.le_refl _)⟩
        · rw [if_neg h2] at hk hs ⊢
          by_cases h3 : t = 20002
          · rw [if_pos h3] at hk ⊢
            obtain ⟨x, r, rfl⟩ := g_stk_len (st := st) hk.1
            have hl' : r.length + 1 ≤ 64 := hl
            have e3 : t - 20000 = 2 := by omega
            have hm := r_mo (t - 20000) (by omega)
            rw [hs.1, if_neg hm.1, if_neg hm.2.1, if_neg hm.2.2.1, if_pos (hm.2.2.2.mpr e3)]
            simp only [List.length_cons, nI_pred]
            rw [ gs_gd_t (gs_in_nI (by omega) (by decide)), nI_clamp (by omega), gs_gd_t (gs_in_nI (by omega) (by decide)), gs_gd_t (gs_in_nI (by omega) (by decide)), ha.1, nI_1 k]
            show ∃ a', _ = some ((g_ev (fun v => told (g_mv v)) c ((if x = 0 then 1 else 0) :: r)).headD 0, a')
            have key : ∀ v : Int32, ∃ a', K (nI (r.length + 1)) (nI (k + 1)) (upd a r.length v) = some ((g_ev (fun v => told (g_mv v)) c (v :: r)).headD 0, a') := fun v =>
              ih (c, k + 1, v :: r, upd a r.length v) (Nat.lt_succ_self _) hs.2 hk.2 (by show k + 1 + 2 * c.length < 1400; omega) hl ⟨pk_us, g_stk_upd ha.2 (Nat.le_refl _)⟩
            by_cases hx : x = 0
            · rw [if_pos hx, if_pos hx]; exact key 1
            · rw [if_neg hx, if_neg hx]; exact key 0
          · rw [if_neg h3] at hk ⊢
            obtain ⟨y, x, r, rfl⟩ := g_stk_len2 (st := st) hk.2.1
            have hl' : r.length + 1 + 1 ≤ 64 := hl
            have e3 : ¬ t - 20000 = 2 := by omega
            have hm := r_mo (t - 20000) (by omega)
            rw [hs.1, if_neg hm.1, if_neg hm.2.1, if_neg hm.2.2.1, if_neg (fun q => e3 (hm.2.2.2.mp q))]
            have hj := r_works (o := t - 20000) (by omega) e3 x y
            rw [show 20000 + (t - 20000) = t by omega] at hj
            simp only [List.length_cons, g_pred, nI_pred]
            rw [gs_gd_t (gs_in_nI (by omega) (by decide)), gs_gd_t (gs_in_nI (by omega) (by decide)), nI_clamp (by omega), nI_clamp (by omega), show a (r.length + 1) = y from ha.1, ha.2.1, hj, gs_b1_s, gs_gd_t (gs_in_nI (by omega) (by decide)), nI_1 k]
            exact ih (c, k + 1, g_jn t x y :: r, upd a r.length (g_jn t x y)) (Nat.lt_succ_self _) hs.2 hk.2.2 (by show k + 1 + 2 * c.length < 1400; omega) (by show r.length + 1 ≤ 64; omega) ⟨pk_us, g_stk_upd ha.2.2 (Nat.le_refl _)⟩
/-- a rule uses only some values -/
def g_us (V : Nat → Bool) (c : List Nat) : Prop := ∀ t ∈ c, 10000 ≤ t → t < 20000 → V (t - 10000) = true
theorem g_ev_cong {V : Nat → Bool} {u v : Nat → Int32} (h : ∀ n, V n = true → u n = v n) : ∀ {c : List Nat} (st : List Int32), g_us V c → g_ev u c st = g_ev v c st
  | [], _, _ => rfl
  | t :: c, st, hu => by
    have e : g_ev1 u t st = g_ev1 v t st := by
      unfold g_ev1
      by_cases h1 : t < 10000
      · rw [if_pos h1, if_pos h1]
      · rw [if_neg h1, if_neg h1]
        by_cases h2 : t < 20000
        · rw [if_pos h2, if_pos h2, h _ (hu t (List.mem_cons_self ..) (by omega) h2)]
        · rw [if_neg h2, if_neg h2]
    show g_ev u c (g_ev1 u t st) = g_ev v c (g_ev1 v t st)
    rw [e]
    exact g_ev_cong h _ (fun t ht => hu t (List.mem_cons_of_mem _ ht))
