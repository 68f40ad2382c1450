/-! ===== pure rows: the longest common row ===== -/
def g_lc (eq : Nat → Nat → Bool) : Nat → Nat → Nat
  | 0, _ => 0
  | _ + 1, 0 => 0
  | i + 1, k + 1 => if eq i k then g_lc eq i k + 1 else max (g_lc eq i (k + 1)) (g_lc eq (i + 1) k)
theorem g_lc_0 (eq : Nat → Nat → Bool) (i : Nat) : g_lc eq i 0 = 0 := by
  cases i with
  | zero => rw [g_lc]
  | succ i => rw [g_lc]
theorem g_lc_s (eq : Nat → Nat → Bool) (i k : Nat) : g_lc eq (i + 1) (k + 1) = if eq i k then g_lc eq i k + 1 else max (g_lc eq i (k + 1)) (g_lc eq (i + 1) k) := by
  rw [g_lc]
theorem g_lc_row (eq : Nat → Nat → Bool) : ∀ i, (∀ k, g_lc eq i k ≤ g_lc eq i (k + 1) ∧ g_lc eq i (k + 1) ≤ g_lc eq i k + 1) ∧ (∀ k, g_lc eq i k ≤ g_lc eq (i + 1) k ∧ g_lc eq (i + 1) k ≤ g_lc eq i k + 1) := by
  have down : ∀ i, (∀ k, g_lc eq i k ≤ g_lc eq i (k + 1) ∧ g_lc eq i (k + 1) ≤ g_lc eq i k + 1) → (∀ k, g_lc eq i k ≤ g_lc eq (i + 1) k ∧ g_lc eq (i + 1) k ≤ g_lc eq i k + 1) := by
    intro i hr k
    induction k with
    | zero => rw [g_lc_0, g_lc_0]; omega
    | succ k ih =>
      have h1 := hr k
      rw [g_lc_s]
      split
      · omega
      · omega
  intro i
  induction i with
  | zero =>
    have h0 : ∀ k, g_lc eq 0 k ≤ g_lc eq 0 (k + 1) ∧ g_lc eq 0 (k + 1) ≤ g_lc eq 0 k + 1 := fun k => by
      rw [g_lc, g_lc]
      omega
    exact ⟨h0, down 0 h0⟩
  | succ i ih =>
    have h0 : ∀ k, g_lc eq (i + 1) k ≤ g_lc eq (i + 1) (k + 1) ∧ g_lc eq (i + 1) (k + 1) ≤ g_lc eq (i + 1) k + 1 := fun k => by
      have h1 := ih.1 k
      have h2 := ih.2 k
      rw [g_lc_s]
      split
      · omega
      · omega
    exact ⟨h0, down (i + 1) h0⟩
theorem g_lc_le (eq : Nat → Nat → Bool) : ∀ i k, g_lc eq i k ≤ i
  | 0, k => by rw [g_lc]; omega
  | i + 1, k => by
    have h1 := (g_lc_row eq i).2 k
    have h2 := g_lc_le eq i k
    omega
theorem g_lc_cong {e1 e2 : Nat → Nat → Bool} {n : Nat} (h : ∀ i k, i < n → k < n → e1 i k = e2 i k) : ∀ i k, i ≤ n → k ≤ n → g_lc e1 i k = g_lc e2 i k
  | 0, k, _, _ => by rw [g_lc, g_lc]
  | i + 1, 0, _, _ => by rw [g_lc_0, g_lc_0]
  | i + 1, k + 1, hi, hk => by
    rw [g_lc_s, g_lc_s, h i k (by omega) (by omega), g_lc_cong h i k (by omega) (by omega), g_lc_cong h i (k + 1) (by omega) hk, g_lc_cong h (i + 1) k hi (by omega)]
theorem g_maxI {a b : Nat} (ha : a < 2 ^ 31) (hb : b < 2 ^ 31) : (if nI a < nI b then nI b else nI a) = nI (max a b) := by
  by_cases h : a < b
  · rw [if_pos (nI_lt h hb), Nat.max_eq_right (by omega)]
  · rw [if_neg (nI_nlt (by omega) ha), Nat.max_eq_left (by omega)]
def g_eq (x y : Int32) (i k : Nat) : Bool := !(g_nt x i == -1) && (g_nt x i == g_nt y k)
/-- class -/
theorem v_commonC {L : Nat → Int32} {s n : Nat} (x y : Int32) (hs : s < 5) (hl : L s = nI n) (hn : n ≤ 8) (row : Nat → Int32) : ∃ row', f_X10_common (nI s) x y L row = some (nI (g_lc (g_eq x y) n n), row') := by
  unfold f_X10_common
  have e8 : (if (8 : Int32) < L (nI s).toNatClampNeg then 8 else L (nI s).toNatClampNeg) = nI n := by
    rw [nI_clamp (by omega), hl, if_neg (show ¬ (8 : Int32) < nI n from nI_nlt (a := 8) hn (by omega))]
  rw [gs_gd_t (gs_in_nI hs (by decide)), gs_fill (by omega), gs_b1_s, e8]
  have hb : ∀ i k, g_lc (g_eq x y) i k < 2 ^ 31 ∨ ¬ i ≤ 8 := fun i k => by
    have := g_lc_le (g_eq x y) i k
    omega
  have inner : ∀ (i : Nat) (K133 : (Nat → Int32) → Option (Int32 × (Nat → Int32))) (row : Nat → Int32), i < n → (∀ c, c ≤ n → row c = nI (g_lc (g_eq x y) i c)) → ∃ row', (∀ c, c ≤ n → row' c = nI (g_lc (g_eq x y) (i + 1) c)) ∧ gs_it (fun _ _ _ => none) (f_X10_common_48 x y (nI n) (nI i) (g_nt x i) K133) gs_fuel 0 1 row = K133 row' := by
    intro i K133 row hi hrow
    have h := g_run (z := fun _ _ _ => none) (b := f_X10_common_48 x y (nI n) (nI i) (g_nt x i) K133) (ρ := Int32 × (Nat → Int32)) (σ := Nat × (Nat → Int32)) (fun K w => K (nI (g_lc (g_eq x y) i w.1)) (nI (w.1 + 1)) w.2) (fun w => n - w.1)
      (fun w r => w.1 ≤ n → (∀ c, c ≤ n → w.2 c = nI (if c ≤ w.1 then g_lc (g_eq x y) (i + 1) c else g_lc (g_eq x y) i c)) → ∃ row', (∀ c, c ≤ n → row' c = nI (g_lc (g_eq x y) (i + 1) c)) ∧ r = K133 row')
      ?_ gs_fuel (0, row) (by show n - 0 < gs_fuel; rw [gs_fuel_eq]; omega) (Nat.zero_le _) (fun c hc => by
        show row c = _
        rw [hrow c hc]
        by_cases q : c ≤ 0
        · have : c = 0 := by omega
          rw [if_pos q, this, g_lc_0, g_lc_0]
        · rw [if_neg q])
    · have h' : ∃ row', (∀ c, c ≤ n → row' c = nI (g_lc (g_eq x y) (i + 1) c)) ∧ gs_it (fun _ _ _ => none) (f_X10_common_48 x y (nI n) (nI i) (g_nt x i) K133) gs_fuel (nI (g_lc (g_eq x y) i 0)) (nI (0 + 1)) row = K133 row' := h
      rw [g_lc_0] at h'
      exact h'
    · rintro K ⟨j, row⟩ ih hj hrow
      replace hj : j ≤ n := hj
      replace hrow : ∀ c, c ≤ n → row c = nI (if c ≤ j then g_lc (g_eq x y) (i + 1) c else g_lc (g_eq x y) i c) := hrow
      show ∃ row', _ ∧ f_X10_common_48 x y (nI n) (nI i) (g_nt x i) K133 K (nI (g_lc (g_eq x y) i j)) (nI (j + 1)) row = K133 row'
      unfold f_X10_common_48
      rcases Nat.lt_or_ge j n with hl2 | hl2
      · have r1 : row (j + 1) = nI (g_lc (g_eq x y) i (j + 1)) := by rw [hrow (j + 1) (by omega), if_neg (by omega)]
        have r0 : row j = nI (g_lc (g_eq x y) (i + 1) j) := by rw [hrow j (by omega), if_pos (Nat.le_refl _)]
        have b1 := g_lc_le (g_eq x y) i j
        have b2 := g_lc_le (g_eq x y) i (j + 1)
        have b3 := g_lc_le (g_eq x y) (i + 1) j
        rw [if_neg (nI_nlt (by omega) (by omega)), gs_gd_t (gs_in_nI (by omega) (by decide)), nI_pred, nI_clamp (n := j + 1) (by omega), r1]
        have fin : ∀ v, v = nI (g_lc (g_eq x y) (i + 1) (j + 1)) → ∃ row', (∀ c, c ≤ n → row' c = nI (g_lc (g_eq x y) (i + 1) c)) ∧ K (nI (g_lc (g_eq x y) i (j + 1))) (nI (j + 1 + 1)) (upd row (j + 1) v) = K133 row' := by
          intro v hv
          refine ih (j + 1, upd row (j + 1) v) (by show n - (j + 1) < n - j; omega) (by show j + 1 ≤ n; omega) (fun c hc => ?_)
          show upd row (j + 1) v c = nI (if c ≤ j + 1 then _ else _)
          by_cases q : c = j + 1
          · rw [q, pk_us, if_pos (Nat.le_refl _), hv]
          · rw [pk_un q, hrow c hc]
            by_cases q2 : c ≤ j
            · rw [if_pos q2, if_pos (by omega)]
            · rw [if_neg q2, if_neg (by omega)]
        have no : g_eq x y i j = false → ∃ row', (∀ c, c ≤ n → row' c = nI (g_lc (g_eq x y) (i + 1) c)) ∧ f_X10_common_88 (fun (x7' : Int32) (x8' : Int32) (r_t_commonRow' : Nat → Int32) => K x7' x8' r_t_commonRow') 0 x y (nI n) (nI i) (g_nt x i) (nI (g_lc (g_eq x y) i j)) (nI (j + 1)) (nI (g_lc (g_eq x y) i (j + 1))) row = K133 row' := by
          intro q
          unfold f_X10_common_88
          rw [if_pos rfl, nI_pred, gs_gd_t (gs_in_nI (by omega) (by decide)), gs_gd_t (gs_in_nI (by omega) (by decide)), nI_clamp (by omega), nI_clamp (by omega), nI_1, r0, g_maxI (by omega) (by omega)]
          refine fin _ ?_
          rw [g_lc_s, q, if_neg Bool.false_ne_true]
        by_cases q1 : g_nt x i = -1
        · rw [if_pos q1]
          exact no (by simp [g_eq, q1])
        · rw [if_neg q1, g_noteAt _ (by omega), gs_b1_s]
          by_cases q2 : g_nt x i = g_nt y j
          · rw [if_pos q2]
            unfold f_X10_common_88
            rw [if_neg n10, gs_gd_t (gs_in_nI (by omega) (by decide)), nI_clamp (by omega), nI_1, nI_1]
            refine fin _ ?_
            have : g_eq x y i j = true := by simp [g_eq, q1, ← q2]
            rw [g_lc_s, this, if_pos rfl]
          · rw [if_neg q2]
            exact no (by simp [g_eq, q2])
      · have e : j = n := by omega
        subst e
        rw [if_pos (nI_lt (by omega) (by omega))]
        refine ⟨row, fun c hc => ?_, rfl⟩
        rw [hrow c hc, if_pos hc]
  have h := g_run (z := fun _ _ => none) (b := f_X10_common_27 x y (nI n)) (ρ := Int32 × (Nat → Int32)) (σ := Nat × (Nat → Int32)) (fun K w => K (nI w.1) w.2) (fun w => n - w.1)
    (fun w r => w.1 ≤ n → (∀ c, c ≤ n → w.2 c = nI (g_lc (g_eq x y) w.1 c)) → ∃ row', r = some (nI (g_lc (g_eq x y) n n), row'))
    ?_ gs_fuel (0, fun j => if j < 9 then 0 else row j) (by show n - 0 < gs_fuel; rw [gs_fuel_eq]; omega) (Nat.zero_le _) (fun c hc => by
      show (if c < 9 then 0 else row c) = _
      rw [if_pos (by omega), g_lc]
      rfl)
  · have h' : ∃ row', gs_it (fun _ _ => none) (f_X10_common_27 x y (nI n)) gs_fuel (nI 0) (fun j => if j < 9 then 0 else row j) = some (nI (g_lc (g_eq x y) n n), row') := h
    rw [nI_0] at h'
    exact h'
  · rintro K ⟨i, row⟩ ih hi hrow
    replace hi : i ≤ n := hi
    replace hrow : ∀ c, c ≤ n → row c = nI (g_lc (g_eq x y) i c) := hrow
    show ∃ row', f_X10_common_27 x y (nI n) K (nI i) row = _
    unfold f_X10_common_27
    rcases Nat.lt_or_ge i n with hl2 | hl2
    · rw [if_neg (nI_ge hl2 (by omega)), g_noteAt _ (by omega), gs_b1_s]
      obtain ⟨row1, h1, h2⟩ := inner i (fun (r_t_commonRow' : Nat → Int32) => f_X10_common_133 (fun (x5' : Int32) (r_t_commonRow' : Nat → Int32) => K x5' r_t_commonRow') x y (nI n) (nI i) r_t_commonRow') row hl2 hrow
      rw [h2]
      unfold f_X10_common_133
      dsimp only
      rw [nI_1]
      exact ih (i + 1, row1) (by show n - (i + 1) < n - i; omega) (by show i + 1 ≤ n; omega) h1
    · have e : i = n := by omega
      subst e
      rw [if_pos (nI_le (Nat.le_refl _) (by omega)), gs_gd_t (gs_in_nI (by omega) (by decide)), nI_clamp (by omega), hrow i (Nat.le_refl _)]
      exact ⟨row, rfl⟩
def m_eq (M : Nat → Int32) (p o s i k : Nat) : Bool := !(M (1 + 40 * p + 8 * s + i) == -1) && (M (1 + 40 * p + 8 * s + i) == M (1 + 40 * o + 8 * s + k))
/-- model -/
theorem v_commonM {M ML : Nat → Int32} {p o s n : Nat} (hp : p < 7) (ho : o < 7) (hs : s < 5) (hl : ML s = nI n) (hn : n ≤ 8) (a : Nat → Int32) : ∃ a', f_X12_commonOf (nI p) (nI o) (nI s) ML M a = some (nI (g_lc (m_eq M p o s) n n), a') := by
  have i9 : ∀ i k : Nat, (9 : Int32) * nI i + nI k = nI (9 * i + k) := fun i k => by
    show nI 9 * nI i + nI k = _
    rw [gs_mul, nI_add]
  have inner : ∀ (i : Nat) (K176 : (Nat → Int32) → Option (Int32 × (Nat → Int32))) (a : Nat → Int32), i < n → (∀ j c, j ≤ n → c ≤ n → (j ≤ i ∨ c = 0) → a (9 * j + c) = nI (g_lc (m_eq M p o s) j c)) → ∃ a', (∀ j c, j ≤ n → c ≤ n → (j ≤ i + 1 ∨ c = 0) → a' (9 * j + c) = nI (g_lc (m_eq M p o s) j c)) ∧ gs_it (fun _ _ => none) (f_X12_commonOf_41 (nI p) (nI o) (nI s) (nI i) ML M K176) gs_fuel 0 a = K176 a' := by
    intro i K176 a hi ha
    have h := g_run (z := fun _ _ => none) (b := f_X12_commonOf_41 (nI p) (nI o) (nI s) (nI i) ML M K176) (ρ := Int32 × (Nat → Int32)) (σ := Nat × (Nat → Int32)) (fun K w => K (nI w.1) w.2) (fun w => n - w.1)
      (fun w r => w.1 ≤ n → (∀ j c, j ≤ n → c ≤ n → (j ≤ i ∨ c = 0 ∨ (j = i + 1 ∧ c ≤ w.1)) → w.2 (9 * j + c) = nI (g_lc (m_eq M p o s) j c)) → ∃ a', (∀ j c, j ≤ n → c ≤ n → (j ≤ i + 1 ∨ c = 0) → a' (9 * j + c) = nI (g_lc (m_eq M p o s) j c)) ∧ r = K176 a')
      ?_ gs_fuel (0, a) (by show n - 0 < gs_fuel; rw [gs_fuel_eq]; omega) (Nat.zero_le _) (fun j c hj hc q => ha j c hj hc (by omega))
    · have h' : ∃ a', (∀ j c, j ≤ n → c ≤ n → (j ≤ i + 1 ∨ c = 0) → a' (9 * j + c) = nI (g_lc (m_eq M p o s) j c)) ∧ gs_it (fun _ _ => none) (f_X12_commonOf_41 (nI p) (nI o) (nI s) (nI i) ML M K176) gs_fuel (nI 0) a = K176 a' := h
      rw [nI_0] at h'
      exact h'
    · rintro K ⟨k, a⟩ ih hk ha
      replace hk : k ≤ n := hk
      replace ha : ∀ j c, j ≤ n → c ≤ n → (j ≤ i ∨ c = 0 ∨ (j = i + 1 ∧ c ≤ k)) → a (9 * j + c) = nI (g_lc (m_eq M p o s) j c) := ha
      show ∃ a', _ ∧ f_X12_commonOf_41 (nI p) (nI o) (nI s) (nI i) ML M K176 K (nI k) a = K176 a'
      unfold f_X12_commonOf_41
      rw [gs_gd_t (gs_in_nI hs (by decide)), nI_clamp (n := s) (by omega), hl]
      rcases Nat.lt_or_ge k n with hl2 | hl2
      · have b1 := g_lc_le (m_eq M p o s) i k
        have b2 := g_lc_le (m_eq M p o s) i (k + 1)
        have b3 := g_lc_le (m_eq M p o s) (i + 1) k
        have s1 := (g_lc_row (m_eq M p o s) i).1 k
        have s2 := (g_lc_row (m_eq M p o s) i).2 k
        have a1 : a (9 * i + k) = nI (g_lc (m_eq M p o s) i k) := ha i k (by omega) (by omega) (by omega)
        have a2 : a (9 * i + k + 1) = nI (g_lc (m_eq M p o s) i (k + 1)) := ha i (k + 1) (by omega) (by omega) (by omega)
        have a3 : a (9 * (i + 1) + k) = nI (g_lc (m_eq M p o s) (i + 1) k) := ha (i + 1) k (by omega) (by omega) (by omega)
        rw [if_neg (nI_ge hl2 (by omega)), m_noteAt, gs_b1_s, gs_gd_t (gs_in_nI (by omega) (by decide)), m_noteAt, gs_b1_s, gs_gd_t (gs_in_nI (by omega) (by decide)), nI_1 i, i9, i9, nI_1 (9 * i + k), nI_1 (9 * (i + 1) + k), gs_gd_t (gs_in_nI (i := 9 * i + k + 1) (by omega) (by decide)), gs_gd_t (gs_in_nI (i := 9 * (i + 1) + k) (by omega) (by decide)), nI_clamp (n := 9 * i + k + 1) (by omega), nI_clamp (n := 9 * (i + 1) + k) (by omega), nI_clamp (n := 1 + 40 * p + 8 * s + i) (by omega), nI_clamp (n := 1 + 40 * o + 8 * s + k) (by omega), a2, a3, g_greater, gs_b1_s, g_maxI (by omega) (by omega), nI_1 k]
        have fin : ∀ v, v = nI (g_lc (m_eq M p o s) (i + 1) (k + 1)) → ∃ a', (∀ j c, j ≤ n → c ≤ n → (j ≤ i + 1 ∨ c = 0) → a' (9 * j + c) = nI (g_lc (m_eq M p o s) j c)) ∧ (gs_gd (gs_in (nI (9 * (i + 1) + k + 1)) 81) (K (nI (k + 1)) (upd a (nI (9 * (i + 1) + k + 1)).toNatClampNeg v))) = K176 a' := by
          intro v hv
          rw [gs_gd_t (gs_in_nI (by omega) (by decide)), nI_clamp (by omega)]
          refine ih (k + 1, upd a (9 * (i + 1) + k + 1) v) (by show n - (k + 1) < n - k; omega) (by show k + 1 ≤ n; omega) (fun j c hj hc q => ?_)
          show upd a (9 * (i + 1) + k + 1) v (9 * j + c) = _
          replace q : j ≤ i ∨ c = 0 ∨ (j = i + 1 ∧ c ≤ k + 1) := q
          by_cases e : j = i + 1 ∧ c = k + 1
          · rw [e.1, e.2, show 9 * (i + 1) + (k + 1) = 9 * (i + 1) + k + 1 by omega, pk_us, hv]
          · rw [pk_un (by omega)]
            exact ha j c hj hc (by omega)
        by_cases q1 : M (1 + 40 * p + 8 * s + i) = -1
        · rw [if_pos q1]
          refine fin _ ?_
          have : m_eq M p o s i k = false := by simp [m_eq, q1]
          rw [g_lc_s, this, if_neg Bool.false_ne_true]
        · rw [if_neg q1]
          by_cases q2 : M (1 + 40 * p + 8 * s + i) = M (1 + 40 * o + 8 * s + k)
          · rw [if_pos q2, gs_gd_t (gs_in_nI (i := 9 * i + k) (by omega) (by decide)), nI_clamp (n := 9 * i + k) (by omega), a1, show (1 : Int32) + nI (g_lc (m_eq M p o s) i k) = nI (1 + g_lc (m_eq M p o s) i k) from nI_add 1 _, g_greater, gs_b1_s, g_maxI (by omega) (by omega)]
            refine fin _ ?_
            have : m_eq M p o s i k = true := by simp [m_eq, q1, ← q2]
            rw [g_lc_s, this, if_pos rfl]
            refine congrArg nI ?_
            omega
          · rw [if_neg q2]
            refine fin _ ?_
            have : m_eq M p o s i k = false := by simp [m_eq, q2]
            rw [g_lc_s, this, if_neg Bool.false_ne_true]
      · have e : k = n := by omega
        subst e
        rw [if_pos (nI_le (Nat.le_refl _) (by omega))]
        exact ⟨a, fun j c hj hc q => ha j c hj hc (by omega), rfl⟩
  have outer : ∀ (a : Nat → Int32), (∀ j c, j ≤ n → c ≤ n → a (9 * j + c) = 0) → ∃ a', f_X12_commonOf_24 (nI p) (nI o) (nI s) ML M a = some (nI (g_lc (m_eq M p o s) n n), a') := by
    intro a ha
    unfold f_X12_commonOf_24
    have h := g_run (z := fun _ _ => none) (b := f_X12_commonOf_27 (nI p) (nI o) (nI s) ML M) (ρ := Int32 × (Nat → Int32)) (σ := Nat × (Nat → Int32)) (fun K w => K (nI w.1) w.2) (fun w => n - w.1)
      (fun w r => w.1 ≤ n → (∀ j c, j ≤ n → c ≤ n → (j ≤ w.1 ∨ c = 0) → w.2 (9 * j + c) = nI (g_lc (m_eq M p o s) j c)) → ∃ a', r = some (nI (g_lc (m_eq M p o s) n n), a'))
      ?_ gs_fuel (0, a) (by show n - 0 < gs_fuel; rw [gs_fuel_eq]; omega) (Nat.zero_le _) (fun j c hj hc q => by
        show a (9 * j + c) = _
        replace q : j ≤ 0 ∨ c = 0 := q
        have e : g_lc (m_eq M p o s) j c = 0 := by
          rcases q with q | q
          · have : j = 0 := by omega
            rw [this, g_lc]
          · rw [q, g_lc_0]
        rw [ha j c hj hc, e]
        rfl)
    · have h' : ∃ a', gs_it (fun _ _ => none) (f_X12_commonOf_27 (nI p) (nI o) (nI s) ML M) gs_fuel (nI 0) a = some (nI (g_lc (m_eq M p o s) n n), a') := h
      rw [nI_0] at h'
      exact h'
    · rintro K ⟨i, a⟩ ih hi ha
      replace hi : i ≤ n := hi
      replace ha : ∀ j c, j ≤ n → c ≤ n → (j ≤ i ∨ c = 0) → a (9 * j + c) = nI (g_lc (m_eq M p o s) j c) := ha
      show ∃ a', f_X12_commonOf_27 (nI p) (nI o) (nI s) ML M K (nI i) a = _
      unfold f_X12_commonOf_27
      rw [gs_gd_t (gs_in_nI hs (by decide)), gs_gd_t (gs_in_nI hs (by decide)), nI_clamp (n := s) (by omega), hl]
      rcases Nat.lt_or_ge i n with hl2 | hl2
      · rw [if_neg (nI_ge hl2 (by omega))]
        obtain ⟨a1, h1, h2⟩ := inner i (fun (r_t_common' : Nat → Int32) => f_X12_commonOf_176 (fun (x4' : Int32) (r_t_common' : Nat → Int32) => K x4' r_t_common') (nI p) (nI o) (nI s) (nI i) ML M r_t_common') a hl2 ha
        rw [h2]
        unfold f_X12_commonOf_176
        dsimp only
        rw [nI_1]
        exact ih (i + 1, a1) (by show n - (i + 1) < n - i; omega) (by show i + 1 ≤ n; omega) h1
      · have e : i = n := by omega
        subst e
        have e10 : (10 : Int32) * nI i = nI (9 * i + i) := by
          show nI 10 * nI i = _
          rw [gs_mul]
          exact congrArg nI (by omega)
        rw [if_pos (nI_le (Nat.le_refl _) (by omega)), e10, gs_gd_t (gs_in_nI (by omega) (by decide)), nI_clamp (by omega), ha i i (Nat.le_refl _) (Nat.le_refl _) (Or.inl (Nat.le_refl _))]
        exact ⟨a, rfl⟩
  unfold f_X12_commonOf
  have hz : gs_it (fun _ _ => none) (f_X12_commonOf_3 (nI p) (nI o) (nI s) ML M (fun (r_t_common' : Nat → Int32) => f_X12_commonOf_24 (nI p) (nI o) (nI s) ML M r_t_common')) gs_fuel 0 a = f_X12_commonOf_24 (nI p) (nI o) (nI s) ML M (g_cpy (fun _ => 0) a 0 81) := by
    refine g_lb 81 (fun i => g_cpy (fun _ => 0) a 0 i) (by omega) (g_cpy_0 _ _ _) (fun K i hi => ?_) (fun K => ?_)
    · unfold f_X12_commonOf_3
      have e := g_cpy_s (fun _ => 0) a 0 i
      rw [Nat.zero_add] at e
      rw [if_neg (show ¬ (81 : Int32) ≤ nI i from nI_ge (b := 81) hi (by decide)), gs_gd_t (gs_in_nI hi (by decide)), nI_clamp (by omega), nI_1, e]
    · unfold f_X12_commonOf_3
      exact if_pos (show (81 : Int32) ≤ nI 81 from nI_le (a := 81) (Nat.le_refl _) (by decide))
  rw [hz]
  exact outer _ (fun j c hj hc => g_cpy_in (by omega) (by omega))
theorem v_common {P S D : Nat} {len mem : Nat → Nat} {C M L ML : Nat → Int32} (h : g_R P S D len mem C M 0) (hP : P ≤ 7) (hS : S ≤ 5) {p o s : Nat} (hp : p < P) (ho : o < P) (hs : s < S) (hl : L s = nI (len s)) (hml : ML s = nI (len s)) (hn : len s ≤ 8) (row a : Nat → Int32) : ∃ r row' a', f_X10_common (nI s) (C (8 + 5 * p + s)) (C (8 + 5 * o + s)) L row = some (r, row') ∧ f_X12_commonOf (nI p) (nI o) (nI s) ML M a = some (r, a') := by
  obtain ⟨row', h1⟩ := v_commonC (C (8 + 5 * p + s)) (C (8 + 5 * o + s)) (by omega) hl hn row
  obtain ⟨a', h2⟩ := v_commonM (M := M) (p := p) (o := o) (by omega) (by omega) (by omega) hml hn a
  refine ⟨_, row', a', h1, ?_⟩
  rw [h2, g_lc_cong (e1 := g_eq (C (8 + 5 * p + s)) (C (8 + 5 * o + s))) (e2 := m_eq M p o s) (n := len s) (fun i k hi hk => ?_) _ _ (Nat.le_refl _) (Nat.le_refl _)]
  have h3 := ((h.2.1 p hp s hs).1 i (by omega)).1
  have h4 := ((h.2.1 o ho s hs).1 k (by omega)).1
  rw [Nat.zero_add] at h3 h4
  unfold g_eq m_eq
  rw [h3, h4]
theorem o_both {P S D : Nat} {len mem : Nat → Nat} {rF rL : Option (List Nat)} {C M L Fs W CC ML MF MW CM : Nat → Int32} {fF fT lF lT fA lA th : Int32} (hT : g_T P S len rF rL L Fs W CC fF fT lF lT ML MF MW CM fA lA) (hR : g_R P S D len mem C M 0) (x y z w : Int32) (row a : Nat → Int32) :
    (∃ v row' a', f_X11_both x y z w (nI S) (nI P) L C row = some (.inr (v, row')) ∧ f_X12_both x y z w th (nI S) (nI P) ML M a = some (v, 0, a')) ∨ (f_X11_both x y z w (nI S) (nI P) L C row = some (.inl 1) ∧ ∃ v a', f_X12_both x y z w th (nI S) (nI P) ML M a = some (v, 1, a')) := by
  obtain ⟨hP, hS, hlen, hF, hW, -, -⟩ := hT
  unfold f_X11_both f_X12_both
  rcases n_person hP x with ⟨p, hp, e⟩ | ⟨e1, e2⟩
  · subst e
    rw [(n_person_t hp hP).1, (n_person_t hp hP).2, g_bx1_r, g_b2_s, if_neg n10]
    rcases n_person hP y with ⟨o, ho, e⟩ | ⟨e1, e2⟩
    · subst e
      rw [(n_person_t ho hP).1, (n_person_t ho hP).2, g_bx1_r, g_b2_s, if_neg n10]
      rcases n_song hS z with ⟨s, hs, e⟩ | ⟨e1, e2⟩
      · subst e
        have hl := hlen s hs
        rw [(n_song_t hs hS).1, (n_song_t hs hS).2, g_bx1_r, g_b2_s, if_neg n10]
        rcases n_what2 w with ⟨k, hk, e, e1, e2⟩ | ⟨e1, e2⟩
        · subst e
          have hh : ∀ q, q < P → f_X12_doesHave 0 (nI q) (nI s) M = some (if m_H M 0 q s = true then 1 else 0) := fun q hq => m_has (b := 0) (by omega) (by omega) (by omega) M
          rw [e1, e2, g_bx1_r, g_b2_s, if_neg n10, g_holdsB (by omega) (by omega), gs_b1_s, hh p hp, gs_b1_s, v_H hR hp hs]
          left
          by_cases q : m_H M 0 p s = true
          · rw [if_pos q, if_neg n10, if_neg n10, g_holdsB (by omega) (by omega), gs_b1_s, hh o ho, gs_b1_s, v_H hR ho hs]
            by_cases q2 : m_H M 0 o s = true
            · rw [if_pos q2, if_neg n10, if_neg n10, g_notes (by omega) (by omega), gs_b1_s, g_notes (by omega) (by omega), gs_b1_s]
              by_cases q3 : nI k = 0
              · rw [if_pos q3, if_pos q3, g_unlike _ _ (by omega) hl.1 hl.2.2.2, gs_b1_s, m_unlike (by omega) (by omega) (by omega) hl.2.1 hl.2.2.2, gs_b1_s, v_ul hR hp ho hs hl.2.2.2]
                exact ⟨_, _, _, rfl, rfl⟩
              · obtain ⟨r, row', a', r1, r2⟩ := v_common hR hP hS hp ho hs hl.1 hl.2.1 hl.2.2.2 row a
                rw [if_neg q3, if_neg q3, r1, r2, g_b2_s, g_b2_s]
                exact ⟨_, _, _, rfl, rfl⟩
            · rw [if_neg q2, if_pos rfl, if_pos rfl]
              exact ⟨_, _, _, rfl, rfl⟩
          · rw [if_neg q, if_pos rfl, if_pos rfl]
            exact ⟨_, _, _, rfl, rfl⟩
        · rw [e1, e2, g_bx1_l, g_b2_s, if_pos rfl]
          exact Or.inr ⟨rfl, _, _, rfl⟩
      · rw [e1, e2, g_bx1_l, g_b2_s, if_pos rfl]
        exact Or.inr ⟨rfl, _, _, rfl⟩
    · rw [e1, e2, g_bx1_l, g_b2_s, if_pos rfl]
      exact Or.inr ⟨rfl, _, _, rfl⟩
  · rw [e1, e2, g_bx1_l, g_b2_s, if_pos rfl]
    exact Or.inr ⟨rfl, _, _, rfl⟩
