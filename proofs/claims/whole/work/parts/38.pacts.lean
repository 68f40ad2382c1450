/-! ===== pure rows: acts kept, undone, copied ===== -/
def g_A (P S : Nat) (len mem : Nat → Nat) (ol mn : Int32) (AR : Nat → Int32) (ac : Int32) (AH : Nat → Int32) : Prop :=
  ∃ o m : Nat, o < 40 ∧ m ≤ 40 ∧ ol = nI o ∧ mn = nI m ∧ ac = nI m ∧ ∀ i, i < m → g_R P S 9999 len mem (fun j => AR (78 * ((o + i) % 40) + j)) AH (372 * i)
def g_rf (a b : Nat → Int32) : Prop := ∀ i, i < 3 → a i = b i
theorem a_startOf {o m : Nat} (ho : o < 40) (hm : m ≤ 40) : f_X0_startOf (nI m) (nI o) = some (nI (78 * ((o + m) % 40))) := by
  unfold f_X0_startOf
  rw [nI_add]
  show some ((nI (o + m) - nI (o + m) / nI 40 * nI 40) * nI 78) = _
  rw [pk_rem (by omega) (by omega) (by omega), pk_mul, Nat.mul_comm]
theorem a_cp1 {st : Nat} (h : st + 78 ≤ 3120) : gs_cp 0 (nI st) 78 78 3120 = true := by
  unfold gs_cp
  refine decide_eq_true ⟨by decide, nI_pos (by omega), by decide, by decide, ?_⟩
  rw [nI_clamp (by omega)]
  exact h
theorem a_cp2 {st : Nat} (h : st + 78 ≤ 3120) : gs_cp (nI st) 0 78 3120 78 = true := by
  unfold gs_cp
  refine decide_eq_true ⟨nI_pos (by omega), by decide, by decide, ?_, by decide⟩
  rw [nI_clamp (by omega)]
  exact h
theorem a_push32 {o m : Nat} (ho : o < 40) (hm : m < 40) (AR C : Nat → Int32) : f_X0_push_32 (nI o) (nI m) AR C = some (nI o, nI (m + 1), va_cpy C AR 0 (78 * ((o + m) % 40)) 78) := by
  unfold f_X0_push_32
  rw [a_startOf ho (by omega), gs_b1_s, gs_gd_t (a_cp1 (by omega)), nI_1, nI_clamp (by omega)]
  rfl
theorem a_push1 {o m : Nat} (ho : o < 40) (hm : m < 40) (AR C : Nat → Int32) : f_X0_push (nI o) (nI m) AR C = some (nI o, nI (m + 1), va_cpy C AR 0 (78 * ((o + m) % 40)) 78) := by
  unfold f_X0_push
  rw [if_neg (show ¬ nI m = 40 from fun e => by have := (nI_eq (a := m) (b := 40) (by omega) (by omega)).mp e; omega)]
  exact a_push32 ho hm AR C
theorem a_push2 {o : Nat} (ho : o < 40) (AR C : Nat → Int32) : f_X0_push (nI o) (nI 40) AR C = some (nI ((o + 1) % 40), nI 40, va_cpy C AR 0 (78 * (((o + 1) % 40 + 39) % 40)) 78) := by
  unfold f_X0_push
  rw [if_pos (show nI 40 = 40 from rfl), nI_1]
  have e1 : nI (o + 1) - nI (o + 1) / 40 * 40 = nI ((o + 1) % 40) := pk_rem (a := o + 1) (d := 40) (by omega) (by omega) (by omega)
  have e2 : nI 40 - 1 = nI 39 := nI_pred 39
  rw [e1, e2]
  exact a_push32 (by omega) (by omega) AR C
def g_shf (AH : Nat → Int32) (i : Nat) : Nat → Int32 := fun j => if j < i then AH (j + 372) else AH j
theorem a_keeps54 {m : Nat} (hm : m < 40) (M AH : Nat → Int32) : gs_it (fun _ _ => none) (f_X12_keeps_54 (nI m) M) gs_fuel 0 AH = some (nI (m + 1), g_cpy M AH (372 * m) 372) := by
  refine g_lb 372 (fun i => g_cpy M AH (372 * m) i) (by omega) (g_cpy_0 _ _ _) (fun K i hi => ?_) (fun K => ?_)
  · unfold f_X12_keeps_54
    have e2 : (372 : Int32) * nI m + nI i = nI (372 * m + i) := by
      show nI 372 * nI m + nI i = _
      rw [pk_mul, nI_add]
    rw [if_neg (show ¬ (372 : Int32) ≤ nI i from nI_ge (b := 372) hi (by decide)), e2, gs_gd_t (gs_in_nI (by omega) (by decide)), gs_gd_t (gs_in_nI (by omega) (by decide)), nI_clamp (by omega), nI_clamp (by omega), nI_1, g_cpy_s]
  · unfold f_X12_keeps_54
    rw [if_pos (show (372 : Int32) ≤ nI 372 from nI_le (a := 372) (Nat.le_refl _) (by decide)), nI_1]
theorem a_keeps1 {m : Nat} (hm : m < 40) (M AH : Nat → Int32) : f_X12_keeps (nI m) M AH = some (nI (m + 1), g_cpy M AH (372 * m) 372) := by
  unfold f_X12_keeps
  rw [if_neg (show ¬ nI m = 40 from fun e => by have := (nI_eq (a := m) (b := 40) (by omega) (by omega)).mp e; omega)]
  exact a_keeps54 hm M AH
theorem a_keeps2 (M AH : Nat → Int32) : f_X12_keeps (nI 40) M AH = some (nI 40, g_cpy M (g_shf AH 14508) (372 * 39) 372) := by
  unfold f_X12_keeps
  rw [if_pos (show nI 40 = 40 from rfl)]
  have h := g_run (z := fun _ _ => none) (b := f_X12_keeps_13 (nI 40) M (fun (r_t_ahead' : Nat → Int32) => f_X12_keeps_42 (nI 40) M r_t_ahead')) (ρ := Int32 × (Nat → Int32)) (σ := Nat) (fun K i => K (nI (372 + i)) (g_shf AH i)) (fun i => 14508 - i) (fun i o => i ≤ 14508 → o = some (nI 40, g_cpy M (g_shf AH 14508) (372 * 39) 372))
    (fun K i ih hi => by
      show f_X12_keeps_13 (nI 40) M _ K (nI (372 + i)) (g_shf AH i) = _
      unfold f_X12_keeps_13
      rcases Nat.lt_or_ge i 14508 with hl | hl
      · have e1 : nI (372 + i) - 372 = nI i := by
          have := pk_sub (a := 372 + i) (b := 372) (by omega)
          rw [show 372 + i - 372 = i by omega] at this
          exact this
        rw [if_neg (show ¬ (14880 : Int32) ≤ nI (372 + i) from nI_ge (b := 14880) (by omega) (by decide)), e1, gs_gd_t (gs_in_nI (by omega) (by decide)), gs_gd_t (gs_in_nI (by omega) (by decide)), nI_1, nI_clamp (by omega), nI_clamp (by omega)]
        have e2 : upd (g_shf AH i) i (g_shf AH i (372 + i)) = g_shf AH (i + 1) := by
          funext j
          unfold upd g_shf
          by_cases hj : j = i
          · rw [if_pos hj, if_neg (by omega), if_pos (by omega), hj, Nat.add_comm]
          · rw [if_neg hj]
            by_cases h2 : j < i
            · rw [if_pos h2, if_pos (by omega)]
            · rw [if_neg h2, if_neg (by omega)]
        rw [e2]
        exact ih (i + 1) (by show 14508 - (i + 1) < 14508 - i; omega) (by omega)
      · have e : i = 14508 := by omega
        subst e
        rw [if_pos (show (14880 : Int32) ≤ nI (372 + 14508) from nI_le (a := 14880) (by omega) (by decide))]
        show f_X12_keeps_42 (nI 40) M (g_shf AH 14508) = _
        unfold f_X12_keeps_42
        rw [show nI 40 - 1 = nI 39 from nI_pred 39]
        exact a_keeps54 (by omega) M _) gs_fuel 0 (by show 14508 - 0 < gs_fuel; rw [gs_fuel_eq]; omega) (Nat.zero_le _)
  have e0 : g_shf AH 0 = AH := funext fun j => if_neg (Nat.not_lt_zero j)
  have h' : gs_it (fun _ _ => none) (f_X12_keeps_13 (nI 40) M (fun (r_t_ahead' : Nat → Int32) => f_X12_keeps_42 (nI 40) M r_t_ahead')) gs_fuel (nI (372 + 0)) (g_shf AH 0) = _ := h
  rw [e0] at h'
  exact h'
/-- an act keeps how it was -/
theorem a_keep {P S : Nat} {len mem : Nat → Nat} {C M AR AH : Nat → Int32} {ol mn ac : Int32} (hP : P ≤ 7) (hS : S ≤ 5) (hA : g_A P S len mem ol mn AR ac AH) (hR : g_R P S 9999 len mem C M 0) :
    ∃ ol' mn' AR' ac' AH', f_X0_push ol mn AR C = some (ol', mn', AR') ∧ f_X12_keeps ac M AH = some (ac', AH') ∧ g_A P S len mem ol' mn' AR' ac' AH' := by
  obtain ⟨o, m, ho, hm, e1, e2, e3, hr⟩ := hA
  subst e1 e2 e3
  rcases Nat.lt_or_ge m 40 with hl | hl
  · refine ⟨_, _, _, _, _, a_push1 ho hl AR C, a_keeps1 hl M AH, o, m + 1, ho, hl, rfl, rfl, rfl, fun i hi => ?_⟩
    rcases Nat.lt_or_ge i m with h1 | h1
    · refine (hr i h1).cong hP hS (fun j hj => ?_) (fun j hj => ?_)
      · show va_cpy C AR 0 (78 * ((o + m) % 40)) 78 (78 * ((o + i) % 40) + j) = _
        have hne : (o + i) % 40 < (o + m) % 40 ∨ (o + m) % 40 < (o + i) % 40 := by omega
        rw [pk_cpy_out (by omega)]
      · rw [g_cpy_out (by omega)]
    · have e : i = m := by omega
      subst e
      refine hR.cong hP hS (fun j hj => ?_) (fun j hj => ?_)
      · show va_cpy C AR 0 (78 * ((o + i) % 40)) 78 (78 * ((o + i) % 40) + j) = _
        rw [pk_cpy_in (by omega) (by omega)]
        exact congrArg C (by omega)
      · rw [g_cpy_in (by omega) (by omega)]
        exact congrArg M (by omega)
  · have e : m = 40 := by omega
    subst e
    refine ⟨_, _, _, _, _, a_push2 ho AR C, a_keeps2 M AH, (o + 1) % 40, 40, by omega, by omega, rfl, rfl, rfl, fun i hi => ?_⟩
    rcases Nat.lt_or_ge i 39 with h1 | h1
    · refine (hr (i + 1) (by omega)).cong hP hS (fun j hj => ?_) (fun j hj => ?_)
      · show va_cpy C AR 0 (78 * (((o + 1) % 40 + 39) % 40)) 78 (78 * (((o + 1) % 40 + i) % 40) + j) = _
        have hne : ((o + 1) % 40 + i) % 40 < ((o + 1) % 40 + 39) % 40 ∨ ((o + 1) % 40 + 39) % 40 < ((o + 1) % 40 + i) % 40 := by omega
        rw [pk_cpy_out (by omega)]
        exact congrArg AR (by omega)
      · rw [g_cpy_out (by omega)]
        show (if 372 * i + j < 14508 then AH (372 * i + j + 372) else _) = _
        rw [if_pos (by omega)]
        exact congrArg AH (by omega)
    · have e : i = 39 := by omega
      subst e
      refine hR.cong hP hS (fun j hj => ?_) (fun j hj => ?_)
      · show va_cpy C AR 0 (78 * (((o + 1) % 40 + 39) % 40)) 78 (78 * (((o + 1) % 40 + 39) % 40) + j) = _
        rw [pk_cpy_in (by omega) (by omega)]
        exact congrArg C (by omega)
      · rw [g_cpy_in (by omega) (by omega)]
        exact congrArg M (by omega)
theorem a_pop {o m : Nat} (ho : o < 40) (hm : m < 40) (AR C : Nat → Int32) : f_X0_pop (nI o) (nI (m + 1)) AR C = some (nI m, va_cpy AR C (78 * ((o + m) % 40)) 0 78) := by
  unfold f_X0_pop
  rw [if_neg (nI_nle (by omega) (by omega)), nI_pred, a_startOf ho (by omega), gs_b1_s, gs_gd_t (a_cp2 (by omega)), nI_clamp (by omega)]
  rfl
theorem a_undo {m : Nat} (hm : m < 40) (th : Int32) (M AH : Nat → Int32) : f_X12_undo th (nI (m + 1)) M AH = some (nI m, 0, nI m, g_cpy (fun j => AH (372 * m + j)) M 0 372) := by
  unfold f_X12_undo
  rw [if_neg (nI_ne0 (by omega) (by omega)), nI_pred]
  refine g_lb 372 (fun i => g_cpy (fun j => AH (372 * m + j)) M 0 i) (by omega) (g_cpy_0 _ _ _) (fun K i hi => ?_) (fun K => ?_)
  · unfold f_X12_undo_26
    have e2 : (372 : Int32) * nI m + nI i = nI (372 * m + i) := by
      show nI 372 * nI m + nI i = _
      rw [pk_mul, nI_add]
    have e3 := g_cpy_s (fun j => AH (372 * m + j)) M 0 i
    rw [Nat.zero_add] at e3
    rw [if_neg (show ¬ (372 : Int32) ≤ nI i from nI_ge (b := 372) hi (by decide)), e2, gs_gd_t (gs_in_nI (by omega) (by decide)), gs_gd_t (gs_in_nI (by omega) (by decide)), nI_clamp (by omega), nI_clamp (by omega), nI_1, e3]
  · unfold f_X12_undo_26
    rw [if_pos (show (372 : Int32) ≤ nI 372 from nI_le (a := 372) (Nat.le_refl _) (by decide))]
/-- the last act is undone -/
theorem o_undo {P S : Nat} {len mem : Nat → Nat} {C M AR AH : Nat → Int32} {ol mn ac : Int32} (th : Int32) (hP : P ≤ 7) (hS : S ≤ 5) (hA : g_A P S len mem ol mn AR ac AH) (hR : g_R P S 9999 len mem C M 0) :
    ∃ v C' mn' ac' M', f_X11_undo C ol mn AR = some (v, C', mn') ∧ f_X12_undo th ac M AH = some (v, 0, ac', M') ∧ g_R P S 9999 len mem C' M' 0 ∧ g_A P S len mem ol mn' AR ac' AH := by
  obtain ⟨o, m, ho, hm, e1, e2, e3, hr⟩ := id hA
  subst e1 e2 e3
  unfold f_X11_undo f_X0_size
  rw [gs_b1_s]
  cases m with
  | zero =>
    rw [if_pos nI_0]
    unfold f_X12_undo
    rw [if_pos nI_0]
    exact ⟨_, _, _, _, _, rfl, rfl, hR, hA⟩
  | succ m =>
    rw [if_neg (nI_ne0 (by omega) (by omega)), a_pop ho (by omega), g_b2_s, gs_b1_s, a_undo (by omega)]
    refine ⟨_, _, _, _, _, rfl, rfl, ?_, o, m, ho, by omega, rfl, rfl, rfl, fun i hi => hr i (by omega)⟩
    refine (hr m (by omega)).cong hP hS (fun j hj => ?_) (fun j hj => ?_)
    · rw [pk_cpy_in (by omega) (by omega)]
      exact congrArg AR (by omega)
    · rw [g_cpy_in (by omega) (by omega)]
      exact congrArg AH (by omega)
theorem a_copies {n : Nat} (hn : n < 20000) (a b : Nat → Int32) : f_X12_copies n n a b = some (g_cpy a b 0 n) := by
  unfold f_X12_copies
  refine g_lb n (fun i => g_cpy a b 0 i) hn (g_cpy_0 _ _ _) (fun K i hi => ?_) (fun K => ?_)
  · unfold f_X12_copies_2
    have e3 := g_cpy_s a b 0 i
    rw [Nat.zero_add] at e3
    rw [if_neg (show ¬ Int32.ofNat n ≤ nI i from nI_ge (b := n) hi (by omega)), gs_gd_t (gs_in_nI hi (by omega)), gs_gd_t (gs_in_nI hi (by omega)), nI_clamp (by omega), nI_1, e3]
  · unfold f_X12_copies_2
    rw [if_pos (show Int32.ofNat n ≤ nI n from nI_le (a := n) (Nat.le_refl _) (by omega))]
theorem g_A.cong {P S : Nat} {len mem : Nat → Nat} {AR AH AR' AH' : Nat → Int32} {ol mn ac : Int32} (hP : P ≤ 7) (hS : S ≤ 5) (hA : g_A P S len mem ol mn AR ac AH) (h1 : ∀ j, j < 3120 → AR' j = AR j) (h2 : ∀ j, j < 14880 → AH' j = AH j) : g_A P S len mem ol mn AR' ac AH' := by
  obtain ⟨o, m, ho, hm, e1, e2, e3, hr⟩ := hA
  exact ⟨o, m, ho, hm, e1, e2, e3, fun i hi => (hr i hi).cong hP hS (fun j hj => h1 _ (by omega)) (fun j hj => h2 _ (by omega))⟩
theorem a_copyFrom (o m : Int32) (AR : Nat → Int32) (o1 m1 : Int32) (AR1 : Nat → Int32) : f_X0_copyFrom o m AR o1 m1 AR1 = some (o1, m1, g_cpy AR1 AR 0 3120) := by
  unfold f_X0_copyFrom
  rw [gs_gd_t (by decide)]
  have e0 : (0 : Int32).toNatClampNeg = 0 := rfl
  have e1 : (3120 : Int32).toNatClampNeg = 3120 := rfl
  rw [e0, e1]
  refine congrArg (fun z => some (o1, m1, z)) (funext fun j => ?_)
  simp only [va_cpy, g_cpy, Nat.zero_add, Nat.sub_zero]
theorem a_refuse {a b : Nat → Int32} (h : g_rf a b) : ∃ a' b', f_X11_refuseAct a = some (-1, a') ∧ f_X12_refuses 1 b = some (-1, b') ∧ g_rf a' b' := by
  unfold f_X11_refuseAct f_X12_refuses
  rw [gs_gd_t (by decide), gs_gd_t (by decide), gs_gd_t (by decide), gs_gd_t (by decide), tc1]
  refine ⟨_, _, rfl, rfl, fun i hi => ?_⟩
  unfold upd
  rw [h 1 (by omega)]
  split
  · rfl
  · exact h i hi
