/-! ===== pure rows: what was heard, day by day ===== -/
theorem g_b8_s {α α2 α3 α4 α5 α6 α7 α8 β : Type} {a : α} {a2 : α2} {a3 : α3} {a4 : α4} {a5 : α5} {a6 : α6} {a7 : α7} {a8 : α8} {k : α → α2 → α3 → α4 → α5 → α6 → α7 → α8 → Option β} : gs_b8 (some (a, a2, a3, a4, a5, a6, a7, a8)) k = k a a2 a3 a4 a5 a6 a7 a8 := rfl
theorem g_cpy_self (C : Nat → Int32) (n : Nat) : g_cpy C C 0 n = C := by
  funext j
  unfold g_cpy
  split
  · rw [Nat.sub_zero]
  · rfl
def g_Ei (P S : Nat) (len : Nat → Nat) (m : Nat) (HR HM : Nat → Int32) : Prop := ∀ i, i < m → ∃ p s k n : Nat, p < P ∧ s < S ∧ k < len s ∧ n ≤ 20 ∧ HR (5 * i) = nI p ∧ HR (5 * i + 1) = nI s ∧ HR (5 * i + 2) = nI k ∧ HR (5 * i + 3) = nI n ∧ HM (5 * i) = nI (1 + 40 * p + 8 * s + k) ∧ HM (5 * i + 1) = nI n ∧ HM (5 * i + 2) = HR (5 * i + 4)
def g_bad (HR C : Nat → Int32) (d i : Nat) : Bool := decide (HR (5 * i + 3) = nI d) && !(g_nt (C (8 + 5 * (HR (5 * i)).toNatClampNeg + (HR (5 * i + 1)).toNatClampNeg)) (HR (5 * i + 2)).toNatClampNeg == HR (5 * i + 4))
def m_bad (HM M : Nat → Int32) (d i : Nat) : Bool := decide (HM (5 * i + 1) = nI d) && !(M (372 + (HM (5 * i)).toNatClampNeg) == HM (5 * i + 2))
def g_mx (HR : Nat → Int32) : Nat → Nat
  | 0 => 0
  | i + 1 => if g_mx HR i < (HR (5 * i + 3)).toNatClampNeg then (HR (5 * i + 3)).toNatClampNeg else g_mx HR i
/-- all that was heard is so -/
def g_ex (rF rL : Option (List Nat)) (mem : Nat → Nat) (W : Nat → Int32) (P S : Nat) (len : Nat → Nat) (C HR : Nat → Int32) (m : Nat) : Bool := g_ct (fun d => !(g_ct (g_bad HR (g_cS rF rL mem W P S len C d) d) m == 0)) 21 == 0
section HD
variable {P S D m : Nat} {len mem : Nat → Nat} {rF rL : Option (List Nat)} {C M L Fs W CC ML MF MW CM mems HR HM : Nat → Int32} {fF fT lF lT fA lA pr pm th : Int32}
theorem h_bad (he : g_Ei P S len m HR HM) (hP : P ≤ 7) (hS : S ≤ 5) (h8 : ∀ s, s < S → len s ≤ 8) (hR : g_R P S D len mem C M 372) {i : Nat} (hi : i < m) (d : Nat) : g_bad HR C d i = m_bad HM M d i := by
  obtain ⟨p, s, k, n, b1, b2, b3, b4, b5, b6, b7, b8, b9, b10, b11⟩ := he i hi
  have hk := h8 s b2
  unfold g_bad m_bad
  rw [b5, b6, b7, b8, b9, b10, b11, nI_clamp (n := p) (by omega), nI_clamp (n := s) (by omega), nI_clamp (n := k) (by omega), nI_clamp (n := 1 + 40 * p + 8 * s + k) (by omega), ((hR.2.1 p b1 s b2).1 k (by omega)).1]
theorem h_badct (he : g_Ei P S len m HR HM) (hP : P ≤ 7) (hS : S ≤ 5) (h8 : ∀ s, s < S → len s ≤ 8) (hR : g_R P S D len mem C M 372) (d : Nat) : g_ct (g_bad HR C d) m = g_ct (m_bad HM M d) m := g_ct_cong (fun i hi => h_bad he hP hS h8 hR hi d)
theorem h_agrees (he : g_Ei P S len m HR HM) (hP : P ≤ 7) (hS : S ≤ 5) (h8 : ∀ s, s < S → len s ≤ 8) (hm : m ≤ 8) {d : Nat} (hd : d < 1000) (C : Nat → Int32) : f_X3_agrees (nI d) (nI m) HR C = some (if g_ct (g_bad HR C d) m = 0 then 1 else 0) := by
  unfold f_X3_agrees
  have h := g_run (z := fun _ => none) (b := f_X3_agrees_2 (nI d) (nI m) HR C) (ρ := Int32) (σ := Nat) (fun K i => K (nI i)) (fun i => m - i) (fun i r => i ≤ m → r = some (if g_ff (g_bad HR C d) (m - i) i = none then 1 else 0))
    (fun K i ih hi => by
      show f_X3_agrees_2 (nI d) (nI m) HR C K (nI i) = _
      unfold f_X3_agrees_2
      rcases Nat.lt_or_ge i m with hl | hl
      · obtain ⟨c, hc⟩ : ∃ c, m - i = c + 1 := ⟨m - i - 1, by omega⟩
        have hc' : m - (i + 1) = c := by omega
        obtain ⟨p, s, k, n, b1, b2, b3, b4, b5, b6, b7, b8, b9, b10, b11⟩ := he i hl
        have hk := h8 s b2
        have hb : g_bad HR C d i = (decide (nI n = nI d) && !(g_nt (C (8 + 5 * p + s)) k == HR (5 * i + 4))) := by
          unfold g_bad
          rw [b5, b6, b7, b8, nI_clamp (n := p) (by omega), nI_clamp (n := s) (by omega), nI_clamp (n := k) (by omega)]
        have i0 : nI i * 5 = nI (5 * i) := by
          show nI i * nI 5 = _
          rw [pk_mul, Nat.mul_comm]
        have i1 : nI (5 * i) + 1 = nI (5 * i + 1) := nI_add _ 1
        have i2 : nI (5 * i) + 2 = nI (5 * i + 2) := nI_add _ 2
        have i3 : nI (5 * i) + 3 = nI (5 * i + 3) := nI_add _ 3
        have i4 : nI (5 * i) + 4 = nI (5 * i + 4) := nI_add _ 4
        have go := ih (i + 1) (by show m - (i + 1) < m - i; omega) (by omega)
        rw [hc'] at go
        rw [if_neg (nI_ge hl (by omega)), i0, i1, i2, i3, i4, gs_gd_t (gs_in_nI (i := 5 * i) (n := 40) (by omega) (by decide)), gs_gd_t (gs_in_nI (i := 5 * i + 1) (n := 40) (by omega) (by decide)), nI_clamp (n := 5 * i) (by omega), nI_clamp (n := 5 * i + 1) (by omega), b5, b6, g_notes (by omega) (by omega), gs_b1_s, gs_gd_t (gs_in_nI (i := 5 * i + 3) (n := 40) (by omega) (by decide)), nI_clamp (n := 5 * i + 3) (by omega), b8, hc, g_ff, hb, nI_1 i]
        by_cases c1 : nI n = nI d
        · rw [if_pos c1, gs_gd_t (gs_in_nI (i := 5 * i + 2) (n := 40) (by omega) (by decide)), nI_clamp (n := 5 * i + 2) (by omega), b7, g_noteAt _ (by omega), gs_b1_s, gs_gd_t (gs_in_nI (i := 5 * i + 4) (n := 40) (by omega) (by decide)), nI_clamp (n := 5 * i + 4) (by omega)]
          by_cases c2 : g_nt (C (8 + 5 * p + s)) k = HR (5 * i + 4)
          · rw [if_pos c2, if_neg (c := (decide (nI n = nI d) && !(g_nt (C (8 + 5 * p + s)) k == HR (5 * i + 4))) = true) (by simp [c2])]
            exact go
          · rw [if_neg c2, if_pos (c := (decide (nI n = nI d) && !(g_nt (C (8 + 5 * p + s)) k == HR (5 * i + 4))) = true) (by simp [c1, c2]), if_neg (Option.some_ne_none i)]
        · rw [if_neg c1, if_neg (c := (decide (nI n = nI d) && !(g_nt (C (8 + 5 * p + s)) k == HR (5 * i + 4))) = true) (by simp [c1])]
          exact go
      · have e : i = m := by omega
        subst e
        rw [if_pos (nI_le (Nat.le_refl _) (by omega)), Nat.sub_self]
        rfl) gs_fuel 0 (by show m - 0 < gs_fuel; rw [gs_fuel_eq]; omega) (Nat.zero_le _)
  have h' : gs_it (fun _ => none) (f_X3_agrees_2 (nI d) (nI m) HR C) gs_fuel (nI 0) = some (if g_ff (g_bad HR C d) m 0 = none then 1 else 0) := h
  rw [nI_0] at h'
  rw [h']
  by_cases e : g_ct (g_bad HR C d) m = 0
  · rw [if_pos e, if_pos (g_ff_ct.mpr e)]
  · rw [if_neg e, if_neg (fun z => e (g_ff_ct.mp z))]
theorem h_mx (he : g_Ei P S len m HR HM) : ∀ i, i ≤ m → g_mx HR i ≤ 20 ∧ ∀ j, j < i → (HR (5 * j + 3)).toNatClampNeg ≤ g_mx HR i
  | 0, _ => ⟨by rw [g_mx]; omega, fun j hj => absurd hj (Nat.not_lt_zero _)⟩
  | i + 1, hi => by
    obtain ⟨h1, h2⟩ := h_mx he i (by omega)
    obtain ⟨p, s, k, n, -, -, -, b4, -, -, -, b8, -⟩ := he i (by omega)
    have hn : (HR (5 * i + 3)).toNatClampNeg ≤ 20 := by rw [b8, nI_clamp (by omega)]; exact b4
    rw [g_mx]
    by_cases c : g_mx HR i < (HR (5 * i + 3)).toNatClampNeg
    · rw [if_pos c]
      refine ⟨hn, fun j hj => ?_⟩
      rcases Nat.lt_or_ge j i with h | h
      · have := h2 j h
        omega
      · have e : j = i := by omega
        subst e
        exact Nat.le_refl _
    · rw [if_neg c]
      refine ⟨h1, fun j hj => ?_⟩
      rcases Nat.lt_or_ge j i with h | h
      · exact h2 j h
      · have e : j = i := by omega
        subst e
        omega
theorem h_last (he : g_Ei P S len m HR HM) (hm : m ≤ 8) : f_X3_lastDays (nI m) HR = some (nI (g_mx HR m)) := by
  unfold f_X3_lastDays
  refine g_la m (fun i => nI (g_mx HR i)) (by omega) rfl (fun K i hi => ?_) (fun K => ?_)
  · unfold f_X3_lastDays_4
    obtain ⟨p, s, k, n, -, -, -, b4, -, -, -, b8, -⟩ := he i hi
    have h1 := (h_mx he i (by omega)).1
    have i0 : nI i * 5 = nI (5 * i) := by
      show nI i * nI 5 = _
      rw [pk_mul, Nat.mul_comm]
    have i3 : nI (5 * i) + 3 = nI (5 * i + 3) := nI_add _ 3
    rw [if_neg (nI_ge hi (by omega)), i0, i3, gs_gd_t (gs_in_nI (i := 5 * i + 3) (n := 40) (by omega) (by decide)), nI_clamp (n := 5 * i + 3) (by omega), b8, nI_1 i, g_mx, b8, nI_clamp (n := n) (by omega)]
    by_cases c : g_mx HR i < n
    · rw [if_pos c, if_pos (nI_lt c (by omega))]
    · rw [if_neg c, if_neg (nI_nlt (by omega) (by omega))]
  · unfold f_X3_lastDays_4
    exact if_pos (nI_le (Nat.le_refl _) (by omega))
/-- a day behind the last that was heard of can't be wrong -/
theorem h_late (he : g_Ei P S len m HR HM) {d : Nat} (hd : g_mx HR m < d) (hd2 : d < 1000) (C : Nat → Int32) : g_ct (g_bad HR C d) m = 0 := g_ct_0.mpr (fun i hi => by
  obtain ⟨p, s, k, n, -, -, -, b4, -, -, -, b8, -⟩ := he i hi
  have h2 := (h_mx he m (Nat.le_refl _)).2 i hi
  rw [b8, nI_clamp (by omega)] at h2
  unfold g_bad
  rw [b8, decide_eq_false (fun q => by have := (nI_eq (by omega) (by omega)).mp q; omega), Bool.false_and])
/-- class: would all that was heard be so -/
theorem h_explC (hT : g_T P S len rF rL L Fs W CC fF fT lF lT ML MF MW CM fA lA) (he : g_Ei P S len m HR HM) (hm8 : m ≤ 8) {x1 x2 : Int32} (hm : ∀ p, p < P → f_X1_memoryOf (nI p) x1 x2 mems = some (nI (mem p))) {M0 : Nat → Int32} (hR : ∀ tr : Nat → Int32, g_R P S D len mem (g_cpy C tr 0 78) M0 372) (tg fo pr pm : Int32) (v t tr : Nat → Int32) :
    ∃ a1 a2 a3 a4 a5, f_X11_explains x1 x2 (nI S) (nI P) fF fT lF lT L mems W CC C (nI m) HR tg fo pr pm v t tr = some (if g_ex rF rL mem W P S len C HR m = true then 1 else 0, a1, a2, -1, 0, a3, a4, a5) := by
  obtain ⟨hP, hS, hlen, hF, hW, -, -⟩ := id hT
  have h8 : ∀ s, s < S → len s ≤ 8 := fun s hs => (hlen s hs).2.2.2
  have h20 := (h_mx he m (Nat.le_refl _)).1
  have eok : ∀ d, g_ct (g_bad HR (g_cS rF rL mem W P S len (g_cpy C tr 0 78) d) d) m = g_ct (g_bad HR (g_cS rF rL mem W P S len C d) d) m := by
    intro d
    have r1 := (s_R hT (hR tr) d).1
    have r2 := hR C
    rw [g_cpy_self] at r2
    have r3 := (s_R hT r2 d).1
    rw [h_badct he hP hS h8 r1, h_badct he hP hS h8 r3]
  unfold f_X11_explains f_X1_pretend
  rw [g_copyRow, gs_b1_s, g_b2_s, h_last he hm8, gs_b1_s, show f_X3_agrees 0 (nI m) HR (g_cpy C tr 0 78) = _ from h_agrees he hP hS h8 hm8 (d := 0) (by omega) (g_cpy C tr 0 78), gs_b1_s]
  have fin : ∀ (r tg fo : Int32) (v t c : Nat → Int32), (r = 0 ∨ r = 1) → f_X11_explains_89 r tg fo x1 x2 v t c = some (r, tg, fo, -1, 0, v, t, c) := by
    intro r tg fo v t c hr
    unfold f_X11_explains_89 f_X1_pretend
    rw [g_b2_s, gs_gd_t]
    unfold gs_bz
    rcases hr with h | h <;> rw [h] <;> rfl
  have hr := g_run (z := fun _ _ _ _ _ _ _ => none) (b := f_X11_explains_45 (nI (g_mx HR m)) (nI S) (nI P) fF fT lF lT L mems W CC (nI m) HR x1 x2 (fun (x4' : Int32) (v_t_course_taught' : Int32) (v_t_course_forgotten' : Int32) (r_t_course_reckoner_values' : Nat → Int32) (r_t_course_reckoner_stack' : Nat → Int32) (r_t_trial_row' : Nat → Int32) => f_X11_explains_89 x4' v_t_course_taught' v_t_course_forgotten' x1 x2 r_t_course_reckoner_values' r_t_course_reckoner_stack' r_t_trial_row')) (ρ := Int32 × Int32 × Int32 × Int32 × Int32 × (Nat → Int32) × (Nat → Int32) × (Nat → Int32)) (σ := Nat × Int32 × Int32 × (Nat → Int32) × (Nat → Int32))
    (fun K y => K (if g_ct (g_bad HR (g_cS rF rL mem W P S len (g_cpy C tr 0 78) y.1) y.1) m = 0 then 1 else 0) (nI (y.1 + 1)) y.2.1 y.2.2.1 y.2.2.2.1 y.2.2.2.2 (g_cS rF rL mem W P S len (g_cpy C tr 0 78) y.1)) (fun y => 21 - y.1)
    (fun y r => y.1 ≤ 20 → (∀ d, d < y.1 → g_ct (g_bad HR (g_cS rF rL mem W P S len C d) d) m = 0) → ∃ a1 a2 a3 a4 a5, r = some (if g_ex rF rL mem W P S len C HR m = true then 1 else 0, a1, a2, -1, 0, a3, a4, a5))
    (by
      rintro K ⟨i, tg, fo, v, t⟩ ih hi hall
      replace hi : i ≤ 20 := hi
      replace hall : ∀ d, d < i → g_ct (g_bad HR (g_cS rF rL mem W P S len C d) d) m = 0 := hall
      show ∃ a1 a2 a3 a4 a5, f_X11_explains_45 (nI (g_mx HR m)) (nI S) (nI P) fF fT lF lT L mems W CC (nI m) HR x1 x2 _ K (if g_ct (g_bad HR (g_cS rF rL mem W P S len (g_cpy C tr 0 78) i) i) m = 0 then 1 else 0) (nI (i + 1)) tg fo v t (g_cS rF rL mem W P S len (g_cpy C tr 0 78) i) = _
      unfold f_X11_explains_45
      rw [eok i]
      by_cases c1 : g_ct (g_bad HR (g_cS rF rL mem W P S len C i) i) m = 0
      · rw [if_pos c1, if_neg n10]
        rcases Nat.lt_or_ge (g_mx HR m) (i + 1) with c2 | c2
        · rw [if_pos (nI_lt c2 (by omega))]
          dsimp only
          rw [fin _ _ _ _ _ _ (Or.inr rfl)]
          have hex : g_ex rF rL mem W P S len C HR m = true := by
            unfold g_ex
            rw [beq_iff_eq, g_ct_0]
            intro d hd
            rcases Nat.lt_or_ge d i with h | h
            · rw [hall d h]; rfl
            · rcases Nat.eq_or_lt_of_le h with h | h
              · rw [← h, c1]; rfl
              · rw [h_late he (d := d) (by omega) (by omega)]; rfl
          rw [if_pos hex]
          exact ⟨_, _, _, _, _, rfl⟩
        · obtain ⟨v1, t1, e⟩ := s_C hT hm (hR tr) i tg fo v t
          rw [if_neg (nI_nlt c2 (by omega)), e, g_b5_s, h_agrees he hP hS h8 hm8 (d := i + 1) (by omega), gs_b1_s, nI_1]
          refine ih (i + 1, _, _, v1, t1) (by show 21 - (i + 1) < 21 - i; omega) (by show i + 1 ≤ 20; omega) (fun d hd => ?_)
          replace hd : d < i + 1 := hd
          rcases Nat.lt_or_ge d i with h | h
          · exact hall d h
          · have e : d = i := by omega
            subst e
            exact c1
      · rw [if_neg c1, if_pos rfl]
        dsimp only
        rw [fin _ _ _ _ _ _ (Or.inl rfl)]
        have hex : ¬ g_ex rF rL mem W P S len C HR m = true := by
          unfold g_ex
          rw [beq_iff_eq, g_ct_0]
          intro q
          have := q i (by omega)
          simp [c1] at this
        rw [if_neg hex]
        exact ⟨_, _, _, _, _, rfl⟩) gs_fuel (0, tg, fo, v, t) (by show 21 - 0 < gs_fuel; rw [gs_fuel_eq]; omega) (Nat.zero_le _) (fun d hd => absurd hd (Nat.not_lt_zero _))
  exact hr
/-- the gaps of all songs of one -/
def g_gs (S : Nat) (len : Nat → Nat) (C : Nat → Int32) (p : Nat) : Nat := g_sum (fun s => if C (8 + 5 * p + s) = -1 then 0 else g_ct (g_nA (C (8 + 5 * p + s))) (len s)) S
/-- model: is all that was heard so -/
theorem h_explM (hT : g_T P S len rF rL L Fs W CC fF fT lF lT ML MF MW CM fA lA) (he : g_Ei P S len m HR HM) (hm8 : m ≤ 8) (hR : g_R P S D len mem C M 372) (ln fn : Int32) (u q sn : Nat → Int32) :
    ∃ b1 b2 M' b3 b4 sn', f_X12_isHeard (nI S) (nI P) fA lA 0 ln fn (nI m) ML MW CM M u q HM sn = some (if g_ex rF rL mem W P S len C HR m = true then 1 else 0, b1, b2, M', b3, b4, sn') ∧ (∀ j, j < 372 → M' j = M j) ∧ (g_ex rF rL mem W P S len C HR m = true → ∀ p, p < P → sn' p = nI (g_gs S len (g_cS rF rL mem W P S len C 10) p)) := by
  obtain ⟨hP, hS, hlen, hF, hW, -, -⟩ := id hT
  have h8 : ∀ s, s < S → len s ≤ 8 := fun s hs => (hlen s hs).2.2.2
  unfold f_X12_isHeard
  have hr := g_run (z := fun _ _ _ _ _ _ _ => none) (b := f_X12_isHeard_2 (nI S) (nI P) fA lA 0 (nI m) ML MW CM HM) (ρ := Int32 × Int32 × Int32 × (Nat → Int32) × (Nat → Int32) × (Nat → Int32) × (Nat → Int32)) (σ := Nat × Int32 × Int32 × (Nat → Int32) × (Nat → Int32) × (Nat → Int32))
    (fun K y => K (nI y.1) y.2.1 y.2.2.1 (m_S rF rL MW P S len 372 M y.1) y.2.2.2.1 y.2.2.2.2.1 y.2.2.2.2.2) (fun y => 21 - y.1)
    (fun y r => y.1 ≤ 21 → (∀ d, d < y.1 → g_ct (g_bad HR (g_cS rF rL mem W P S len C d) d) m = 0) → (11 ≤ y.1 → ∀ p, p < P → y.2.2.2.2.2 p = nI (g_gs S len (g_cS rF rL mem W P S len C 10) p)) → ∃ b1 b2 M' b3 b4 sn', r = some (if g_ex rF rL mem W P S len C HR m = true then 1 else 0, b1, b2, M', b3, b4, sn') ∧ (∀ j, j < 372 → M' j = M j) ∧ (g_ex rF rL mem W P S len C HR m = true → ∀ p, p < P → sn' p = nI (g_gs S len (g_cS rF rL mem W P S len C 10) p)))
    (by
      rintro K ⟨i, ln, fn, u, q, sn⟩ ih hi hall hsn
      replace hi : i ≤ 21 := hi
      replace hall : ∀ d, d < i → g_ct (g_bad HR (g_cS rF rL mem W P S len C d) d) m = 0 := hall
      replace hsn : 11 ≤ i → ∀ p, p < P → sn p = nI (g_gs S len (g_cS rF rL mem W P S len C 10) p) := hsn
      show ∃ b1 b2 M' b3 b4 sn', f_X12_isHeard_2 (nI S) (nI P) fA lA 0 (nI m) ML MW CM HM K (nI i) ln fn (m_S rF rL MW P S len 372 M i) u q sn = _ ∧ _
      obtain ⟨hri, hlo⟩ := s_R hT hR i
      have hlo' : ∀ j, j < 372 → m_S rF rL MW P S len 372 M i j = M j := fun j hj => hlo j (Or.inl hj)
      unfold f_X12_isHeard_2
      rcases Nat.lt_or_ge i 21 with hl2 | hl2
      · rw [if_neg (show ¬ (20 : Int32) < nI i from nI_nlt (a := 20) (by omega) (by omega))]
        -- what was heard of this day
        have hin : gs_it (fun _ => none) (f_X12_isHeard_10 (nI i) (nI S) (nI P) fA lA 0 ln fn (nI m) ML MW CM (m_S rF rL MW P S len 372 M i) u q HM sn (f_X12_isHeard_70 (fun (x1' : Int32) (v_t_learntNow' : Int32) (v_t_forgottenNow' : Int32) (r_t_rows' : Nat → Int32) (r_t_told' : Nat → Int32) (r_t_pile' : Nat → Int32) (r_t_soon' : Nat → Int32) => K x1' v_t_learntNow' v_t_forgottenNow' r_t_rows' r_t_told' r_t_pile' r_t_soon') (nI i) (nI S) (nI P) fA lA 0 ln fn (nI m) ML MW CM (m_S rF rL MW P S len 372 M i) u q HM sn)) gs_fuel 0 = (if g_ct (m_bad HM (m_S rF rL MW P S len 372 M i) i) m = 0 then f_X12_isHeard_70 (fun (x1' : Int32) (v_t_learntNow' : Int32) (v_t_forgottenNow' : Int32) (r_t_rows' : Nat → Int32) (r_t_told' : Nat → Int32) (r_t_pile' : Nat → Int32) (r_t_soon' : Nat → Int32) => K x1' v_t_learntNow' v_t_forgottenNow' r_t_rows' r_t_told' r_t_pile' r_t_soon') (nI i) (nI S) (nI P) fA lA 0 ln fn (nI m) ML MW CM (m_S rF rL MW P S len 372 M i) u q HM sn else some (0, ln, fn, m_S rF rL MW P S len 372 M i, u, q, sn)) := by
          generalize f_X12_isHeard_70 (fun (x1' : Int32) (v_t_learntNow' : Int32) (v_t_forgottenNow' : Int32) (r_t_rows' : Nat → Int32) (r_t_told' : Nat → Int32) (r_t_pile' : Nat → Int32) (r_t_soon' : Nat → Int32) => K x1' v_t_learntNow' v_t_forgottenNow' r_t_rows' r_t_told' r_t_pile' r_t_soon') (nI i) (nI S) (nI P) fA lA 0 ln fn (nI m) ML MW CM (m_S rF rL MW P S len 372 M i) u q HM sn = K70
          generalize m_S rF rL MW P S len 372 M i = Mi
          have h := g_run (z := fun _ => none) (b := f_X12_isHeard_10 (nI i) (nI S) (nI P) fA lA 0 ln fn (nI m) ML MW CM Mi u q HM sn K70) (ρ := Int32 × Int32 × Int32 × (Nat → Int32) × (Nat → Int32) × (Nat → Int32) × (Nat → Int32)) (σ := Nat) (fun K j => K (nI j)) (fun j => m - j) (fun j r => j ≤ m → r = (if g_ff (m_bad HM Mi i) (m - j) j = none then K70 else some (0, ln, fn, Mi, u, q, sn)))
            (fun K j ih hj => by
              show f_X12_isHeard_10 (nI i) (nI S) (nI P) fA lA 0 ln fn (nI m) ML MW CM Mi u q HM sn K70 K (nI j) = _
              unfold f_X12_isHeard_10
              rcases Nat.lt_or_ge j m with hl | hl
              · obtain ⟨c, hc⟩ : ∃ c, m - j = c + 1 := ⟨m - j - 1, by omega⟩
                have hc' : m - (j + 1) = c := by omega
                obtain ⟨p, s, k, n, b1, b2, b3, b4, b5, b6, b7, b8, b9, b10, b11⟩ := he j hl
                have hk := h8 s b2
                have hb : m_bad HM Mi i j = (decide (nI n = nI i) && !(Mi (372 + (1 + 40 * p + 8 * s + k)) == HM (5 * j + 2))) := by
                  unfold m_bad
                  rw [b9, b10, nI_clamp (n := 1 + 40 * p + 8 * s + k) (by omega)]
                have i0 : (5 : Int32) * nI j = nI (5 * j) := pk_mul 5 j
                have i1 : nI (5 * j) + 1 = nI (5 * j + 1) := nI_add _ 1
                have i2 : nI (5 * j) + 2 = nI (5 * j + 2) := nI_add _ 2
                have i7 : (372 : Int32) + nI (1 + 40 * p + 8 * s + k) = nI (372 + (1 + 40 * p + 8 * s + k)) := nI_add 372 _
                have go := ih (j + 1) (by show m - (j + 1) < m - j; omega) (by omega)
                rw [hc'] at go
                rw [if_neg (nI_ge hl (by omega)), i0, i1, i2, gs_gd_t (gs_in_nI (i := 5 * j + 1) (n := 40) (by omega) (by decide)), gs_gd_t (gs_in_nI (i := 5 * j) (n := 40) (by omega) (by decide)), nI_clamp (n := 5 * j + 1) (by omega), nI_clamp (n := 5 * j) (by omega), b9, b10, i7, gs_gd_t (gs_in_nI (i := 372 + (1 + 40 * p + 8 * s + k)) (n := 744) (by omega) (by decide)), gs_gd_t (gs_in_nI (i := 5 * j + 2) (n := 40) (by omega) (by decide)), nI_clamp (n := 372 + (1 + 40 * p + 8 * s + k)) (by omega), nI_clamp (n := 5 * j + 2) (by omega), hc, g_ff, hb, nI_1 j]
                by_cases c1 : nI n = nI i
                · rw [if_pos c1]
                  by_cases c2 : Mi (372 + (1 + 40 * p + 8 * s + k)) = HM (5 * j + 2)
                  · rw [if_pos c2, if_neg (c := (decide (nI n = nI i) && !(Mi (372 + (1 + 40 * p + 8 * s + k)) == HM (5 * j + 2))) = true) (by simp [c2])]
                    exact go
                  · rw [if_neg c2, if_pos (c := (decide (nI n = nI i) && !(Mi (372 + (1 + 40 * p + 8 * s + k)) == HM (5 * j + 2))) = true) (by simp [c1, c2]), if_neg (Option.some_ne_none j)]
                · rw [if_neg c1, if_neg (c := (decide (nI n = nI i) && !(Mi (372 + (1 + 40 * p + 8 * s + k)) == HM (5 * j + 2))) = true) (by simp [c1])]
                  exact go
              · have e : j = m := by omega
                subst e
                rw [if_pos (nI_le (Nat.le_refl _) (by omega)), Nat.sub_self]
                rfl) gs_fuel 0 (by show m - 0 < gs_fuel; rw [gs_fuel_eq]; omega) (Nat.zero_le _)
          have h' : gs_it (fun _ => none) (f_X12_isHeard_10 (nI i) (nI S) (nI P) fA lA 0 ln fn (nI m) ML MW CM Mi u q HM sn K70) gs_fuel (nI 0) = (if g_ff (m_bad HM Mi i) m 0 = none then K70 else some (0, ln, fn, Mi, u, q, sn)) := h
          rw [nI_0] at h'
          rw [h']
          by_cases e : g_ct (m_bad HM Mi i) m = 0
          · rw [if_pos e, if_pos (g_ff_ct.mpr e)]
          · rw [if_neg e, if_neg (fun z => e (g_ff_ct.mp z))]
        rw [hin, ← h_badct he hP hS h8 hri i]
        by_cases c1 : g_ct (g_bad HR (g_cS rF rL mem W P S len C i) i) m = 0
        · rw [if_pos c1]
          have hall' : ∀ d, d < i + 1 → g_ct (g_bad HR (g_cS rF rL mem W P S len C d) d) m = 0 := fun d hd => by
            rcases Nat.lt_or_ge d i with h | h
            · exact hall d h
            · have e : d = i := by omega
              subst e
              exact c1
          obtain ⟨u1, q1, em⟩ := s_M hT (Nat.le_refl 372) hR i ln fn u q
          have em' : f_X12_dayGoes 372 (nI S) (nI P) fA lA 0 ln fn ML MW CM (m_S rF rL MW P S len 372 M i) u q = _ := em
          unfold f_X12_isHeard_70
          by_cases c2 : nI i = 10
          · have c3 : i = 10 := (nI_eq (a := i) (b := 10) (by omega) (by omega)).mp c2
            rw [if_pos c2]
            have hso : gs_it (fun _ _ => none) (f_X12_isHeard_78 (nI i) (nI S) (nI P) fA lA 0 ln fn (nI m) ML MW CM (m_S rF rL MW P S len 372 M i) u q HM (fun (r_t_soon' : Nat → Int32) => f_X12_isHeard_106 (fun (x1' : Int32) (v_t_learntNow' : Int32) (v_t_forgottenNow' : Int32) (r_t_rows' : Nat → Int32) (r_t_told' : Nat → Int32) (r_t_pile' : Nat → Int32) (r_t_soon' : Nat → Int32) => K x1' v_t_learntNow' v_t_forgottenNow' r_t_rows' r_t_told' r_t_pile' r_t_soon') (nI i) (nI S) (nI P) fA lA 0 ln fn (nI m) ML MW CM (m_S rF rL MW P S len 372 M i) u q HM r_t_soon')) gs_fuel 0 sn = f_X12_isHeard_106 (fun (x1' : Int32) (v_t_learntNow' : Int32) (v_t_forgottenNow' : Int32) (r_t_rows' : Nat → Int32) (r_t_told' : Nat → Int32) (r_t_pile' : Nat → Int32) (r_t_soon' : Nat → Int32) => K x1' v_t_learntNow' v_t_forgottenNow' r_t_rows' r_t_told' r_t_pile' r_t_soon') (nI i) (nI S) (nI P) fA lA 0 ln fn (nI m) ML MW CM (m_S rF rL MW P S len 372 M i) u q HM (g_cpy (fun p => nI (g_gs S len (g_cS rF rL mem W P S len C i) p)) sn 0 P) := by
              refine g_lb P (fun j => g_cpy (fun p => nI (g_gs S len (g_cS rF rL mem W P S len C i) p)) sn 0 j) (by omega) (g_cpy_0 _ _ _) (fun K2 j hj => ?_) (fun K2 => ?_)
              · unfold f_X12_isHeard_78
                have e3 := g_cpy_s (fun p => nI (g_gs S len (g_cS rF rL mem W P S len C i) p)) sn 0 j
                rw [Nat.zero_add] at e3
                have e4 : f_X12_gapsOf 372 (nI j) (nI S) ML (m_S rF rL MW P S len 372 M i) = some (nI (g_sum (fun s => if m_H (m_S rF rL MW P S len 372 M i) 372 j s = true then g_ct (m_nA (m_S rF rL MW P S len 372 M i) 372 j s) (len s) else 0) S)) := m_gapsOf (b := 372) len (by omega) (by omega) hS (fun s hs => ⟨(hlen s hs).2.1, (hlen s hs).2.2.2⟩)
                have e5 : g_sum (fun s => if m_H (m_S rF rL MW P S len 372 M i) 372 j s = true then g_ct (m_nA (m_S rF rL MW P S len 372 M i) 372 j s) (len s) else 0) S = g_gs S len (g_cS rF rL mem W P S len C i) j := g_sum_cong (fun s hs => (v_gsum hri hj hs (h8 s hs)).symm)
                rw [if_neg (nI_ge hj (by omega)), e4, gs_b1_s, gs_gd_t (gs_in_nI (by omega) (by decide)), nI_clamp (by omega), nI_1, e5, e3]
              · unfold f_X12_isHeard_78
                rw [if_pos (nI_le (Nat.le_refl _) (by omega))]
            rw [hso]
            unfold f_X12_isHeard_106
            rw [em', g_b5_s, nI_1 i]
            refine ih (i + 1, _, _, u1, q1, _) (by show 21 - (i + 1) < 21 - i; omega) (by show i + 1 ≤ 21; omega) hall' (fun _ p hp => ?_)
            show g_cpy (fun p => nI (g_gs S len (g_cS rF rL mem W P S len C i) p)) sn 0 P p = _
            rw [g_cpy_in (by omega) (by omega), Nat.sub_zero, c3]
          · have c3 : i ≠ 10 := fun e => c2 (by rw [e]; rfl)
            rw [if_neg c2]
            unfold f_X12_isHeard_106
            rw [em', g_b5_s, nI_1 i]
            exact ih (i + 1, _, _, u1, q1, sn) (by show 21 - (i + 1) < 21 - i; omega) (by show i + 1 ≤ 21; omega) hall' (fun h p hp => hsn (by replace h : 11 ≤ i + 1 := h; omega) p hp)
        · rw [if_neg c1]
          have hex : ¬ g_ex rF rL mem W P S len C HR m = true := by
            unfold g_ex
            rw [beq_iff_eq, g_ct_0]
            intro q
            have := q i hl2
            simp [c1] at this
          rw [if_neg hex]
          exact ⟨_, _, _, _, _, _, rfl, hlo', fun h => absurd h hex⟩
      · have e : i = 21 := by omega
        subst e
        have hex : g_ex rF rL mem W P S len C HR m = true := by
          unfold g_ex
          rw [beq_iff_eq, g_ct_0]
          intro d hd
          rw [hall d hd]
          rfl
        rw [if_pos (by decide), if_pos hex]
        exact ⟨_, _, _, _, _, _, rfl, hlo', fun _ => hsn (by omega)⟩) gs_fuel (0, ln, fn, u, q, sn) (by show 21 - 0 < gs_fuel; rw [gs_fuel_eq]; omega) (Nat.zero_le _) (fun d hd => absurd hd (Nat.not_lt_zero _)) (fun h => absurd h (by show ¬ 11 ≤ 0; omega))
  exact hr
end HD
