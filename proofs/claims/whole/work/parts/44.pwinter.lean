/-! ===== pure rows: winters ===== -/
def g_cV (rF rL : Option (List Nat)) (mem : Nat → Nat) (W : Nat → Int32) (P S : Nat) (len : Nat → Nat) (w : Nat → Bool) (C : Nat → Int32) : Nat → Nat → Int32
  | 0 => C
  | i + 1 => (g_dC rF rL mem W P S len (w i) (g_cV rF rL mem W P S len w C i)).1
def m_V (rF rL : Option (List Nat)) (MW : Nat → Int32) (P S : Nat) (len : Nat → Nat) (b : Nat) (w : Nat → Bool) (M : Nat → Int32) : Nat → Nat → Int32
  | 0 => M
  | i + 1 => (m_dM rF rL MW P S len b (w i) (m_V rF rL MW P S len b w M i)).1
def g_wt (w : Nat → Bool) (t : Nat) : Nat → Nat
  | 0 => 1
  | i + 1 => g_wt w t i * (if w i = true then t else 10 - t)
theorem g_wt_le (w : Nat → Bool) {t : Nat} (ht : t ≤ 10) : ∀ i, g_wt w t i ≤ 10 ^ i
  | 0 => Nat.le_refl _
  | i + 1 => by
    rw [g_wt, Nat.pow_succ]
    exact Nat.mul_le_mul (g_wt_le w ht i) (by split <;> omega)
theorem w_isWinter {m i : Nat} (hm : m < 256) (hi : i < 8) : f_X11_isWinter (nI m) (nI i) = some (g_w (m.testBit i)) := by
  unfold f_X11_isWinter
  rw [g_sb m hm i hi]
  cases m.testBit i
  · rw [if_neg (by decide)]; rfl
  · rw [if_pos (by decide)]; rfl
theorem w_weight {m n t : Nat} (hm : m < 256) (hn : n ≤ 5) (ht : t ≤ 10) : f_X11_weightOfWinters (nI m) (nI n) (nI t) = some (nI (g_wt (Nat.testBit m) t n)) := by
  unfold f_X11_weightOfWinters
  refine g_la n (fun i => nI (g_wt (Nat.testBit m) t i)) (by omega) rfl (fun K i hi => ?_) (fun K => ?_)
  · unfold f_X11_weightOfWinters_5
    rw [if_neg (nI_ge hi (by omega)), w_isWinter hm (by omega), gs_b1_s, nI_1 i, g_wt]
    have e10 : (10 : Int32) - nI t = nI (10 - t) := pk_sub (a := 10) ht
    cases h : m.testBit i
    · rw [show g_w false = 0 from rfl, if_pos rfl, e10, pk_mul, if_neg Bool.false_ne_true]
    · rw [show g_w true = 1 from rfl, if_neg n10, pk_mul, if_pos rfl]
  · unfold f_X11_weightOfWinters_5
    exact if_pos (nI_le (Nat.le_refl _) (by omega))
section WI
variable {P S D b : Nat} {len mem : Nat → Nat} {rF rL : Option (List Nat)} {L Fs W CC ML MF MW CM mems : Nat → Int32} {fF fT lF lT fA lA pr pm th : Int32}
theorem w_R (hT : g_T P S len rF rL L Fs W CC fF fT lF lT ML MF MW CM fA lA) (w : Nat → Bool) {C M : Nat → Int32} (h : g_R P S D len mem C M b) : ∀ i, g_R P S (D + i) len mem (g_cV rF rL mem W P S len w C i) (m_V rF rL MW P S len b w M i) b ∧ ∀ j, (j < b ∨ b + 372 ≤ j) → m_V rF rL MW P S len b w M i j = M j
  | 0 => ⟨h, fun _ _ => rfl⟩
  | i + 1 => by
    obtain ⟨h1, h2⟩ := w_R hT w h i
    obtain ⟨d1, d2, d3⟩ := d_R hT h1 (w i)
    exact ⟨d1, fun j hj => (d3 j hj).trans (h2 j hj)⟩
def g_wh (C : Nat → Int32) (n p s : Nat) : Bool := g_H C p s && (g_mk (g_nA (C (8 + 5 * p + s))) n == 0)
/-- class: does one have it whole behind such days -/
theorem w_behind (hT : g_T P S len rF rL L Fs W CC fF fT lF lT ML MF MW CM fA lA) (hm : ∀ p, p < P → f_X1_memoryOf (nI p) pr pm mems = some (nI (mem p))) {C M : Nat → Int32} (h : g_R P S D len mem C M 0) {p s m n : Nat} (hp : p < P) (hs : s < S) (hm2 : m < 256) (hn : n ≤ 5) (tg fo : Int32) (v t tr : Nat → Int32) :
    ∃ a1 a2 a3 a4, f_X11_wholeBehind (nI p) (nI s) (nI m) (nI n) (nI S) (nI P) fF fT lF lT L mems W CC C tg fo pr pm v t tr = some (if g_wh (g_cV rF rL mem W P S len (Nat.testBit m) (g_cpy C tr 0 78) n) (len s) p s = true then 1 else 0, a1, a2, a3, a4, g_cV rF rL mem W P S len (Nat.testBit m) (g_cpy C tr 0 78) n) := by
  obtain ⟨hP, hS, hlen, hF, hW, -, -⟩ := id hT
  have hl := hlen s hs
  have h0 := h.tries (tr := tr) hP hS
  unfold f_X11_wholeBehind
  rw [g_copyRow, gs_b1_s]
  have hr := g_run (z := fun _ _ _ _ _ _ => none) (b := f_X11_wholeBehind_14 (nI p) (nI s) (nI m) (nI n) (nI S) (nI P) fF fT lF lT L mems W CC pr pm (fun (v_t_course_taught' : Int32) (v_t_course_forgotten' : Int32) (r_t_course_reckoner_values' : Nat → Int32) (r_t_course_reckoner_stack' : Nat → Int32) (r_t_trial_row' : Nat → Int32) => f_X11_wholeBehind_44 (nI p) (nI s) L v_t_course_taught' v_t_course_forgotten' r_t_course_reckoner_values' r_t_course_reckoner_stack' r_t_trial_row')) (ρ := Int32 × Int32 × Int32 × (Nat → Int32) × (Nat → Int32) × (Nat → Int32)) (σ := Nat × Int32 × Int32 × (Nat → Int32) × (Nat → Int32)) (fun K y => K (nI y.1) y.2.1 y.2.2.1 y.2.2.2.1 y.2.2.2.2 (g_cV rF rL mem W P S len (Nat.testBit m) (g_cpy C tr 0 78) y.1)) (fun y => n - y.1)
    (fun y r => y.1 ≤ n → ∃ a1 a2 a3 a4, r = some (if g_wh (g_cV rF rL mem W P S len (Nat.testBit m) (g_cpy C tr 0 78) n) (len s) p s = true then 1 else 0, a1, a2, a3, a4, g_cV rF rL mem W P S len (Nat.testBit m) (g_cpy C tr 0 78) n))
    (by
      rintro K ⟨i, tg, fo, v, t⟩ ih hi
      replace hi : i ≤ n := hi
      show ∃ a1 a2 a3 a4, f_X11_wholeBehind_14 (nI p) (nI s) (nI m) (nI n) (nI S) (nI P) fF fT lF lT L mems W CC pr pm _ K (nI i) tg fo v t (g_cV rF rL mem W P S len (Nat.testBit m) (g_cpy C tr 0 78) i) = _
      unfold f_X11_wholeBehind_14
      rcases Nat.lt_or_ge i n with hl2 | hl2
      · obtain ⟨v1, t1, e⟩ := d_C hT hm (w_R hT (Nat.testBit m) h0 i).1 (m.testBit i) tg fo v t
        rw [if_neg (nI_ge hl2 (by omega)), w_isWinter hm2 (by omega), gs_b1_s, e, g_b5_s, nI_1 i]
        exact ih (i + 1, _, _, v1, t1) (by show n - (i + 1) < n - i; omega) (by show i + 1 ≤ n; omega)
      · have e : i = n := by omega
        subst e
        rw [if_pos (nI_le (Nat.le_refl _) (by omega))]
        show ∃ a1 a2 a3 a4, f_X11_wholeBehind_44 (nI p) (nI s) L tg fo v t (g_cV rF rL mem W P S len (Nat.testBit m) (g_cpy C tr 0 78) i) = _
        generalize g_cV rF rL mem W P S len (Nat.testBit m) (g_cpy C tr 0 78) i = C1
        unfold f_X11_wholeBehind_44
        rw [g_holdsB (by omega) (by omega), gs_b1_s]
        by_cases e : g_H C1 p s = true
        · rw [if_pos e, if_neg n10, g_notes (by omega) (by omega), gs_b1_s, g_gapBits _ (by omega) hl.1 hl.2.2.2, gs_b1_s, if_neg (g_H_iff.mp e)]
          by_cases e2 : g_mk (g_nA (C1 (8 + 5 * p + s))) (len s) = 0
          · rw [if_pos ((m_mk0 hl.2.2.2).mpr e2), if_pos (c := g_wh C1 (len s) p s = true) (by simp [g_wh, e, e2])]
            exact ⟨_, _, _, _, rfl⟩
          · rw [if_neg (fun z => e2 ((m_mk0 hl.2.2.2).mp z)), if_neg (c := g_wh C1 (len s) p s = true) (by simp [g_wh, e2])]
            exact ⟨_, _, _, _, rfl⟩
        · rw [if_neg e, if_pos rfl, if_neg (c := g_wh C1 (len s) p s = true) (by simp [g_wh, e])]
          exact ⟨_, _, _, _, rfl⟩) gs_fuel (0, tg, fo, v, t) (by show n - 0 < gs_fuel; rw [gs_fuel_eq]; omega) (Nat.zero_le _)
  obtain ⟨a1, a2, a3, a4, hr⟩ := hr
  have hr' : gs_it (fun _ _ _ _ _ _ => none) (f_X11_wholeBehind_14 (nI p) (nI s) (nI m) (nI n) (nI S) (nI P) fF fT lF lT L mems W CC pr pm (fun (v_t_course_taught' : Int32) (v_t_course_forgotten' : Int32) (r_t_course_reckoner_values' : Nat → Int32) (r_t_course_reckoner_stack' : Nat → Int32) (r_t_trial_row' : Nat → Int32) => f_X11_wholeBehind_44 (nI p) (nI s) L v_t_course_taught' v_t_course_forgotten' r_t_course_reckoner_values' r_t_course_reckoner_stack' r_t_trial_row')) gs_fuel (nI 0) tg fo v t (g_cpy C tr 0 78) = _ := hr
  rw [nI_0] at hr'
  exact ⟨a1, a2, a3, a4, hr'⟩
theorem w_bit {g : Nat → Bool} {p : Nat} (hP : P ≤ 7) (hp : p < P) : ((nI (g_mk g P) >>> (nI p &&& 31)) &&& 1 = 1) ↔ g p = true := by
  rw [g_sb _ (g_mk_256 g (by omega)) p (by omega), g_mk_bit]
  simp only [hp, decide_true, Bool.true_and]
  cases g p <;> decide
theorem o_winters (hT : g_T P S len rF rL L Fs W CC fF fT lF lT ML MF MW CM fA lA) (hm : ∀ p, p < P → f_X1_memoryOf (nI p) pr pm mems = some (nI (mem p))) {C M : Nat → Int32} (hR : g_R P S D len mem C M 0) (x y z w : Int32) (tg fo ln fn : Int32) (v t tr u q : Nat → Int32) :
    (∃ r a1 a2 a3 a4 a5 b1 b2 M' b3 b4, f_X11_winters x y z w (nI S) (nI P) fF fT lF lT L mems W CC C tg fo pr pm v t tr = some (.inr (r, a1, a2, a3, a4, a5)) ∧ f_X12_winters x y z w th (nI S) (nI P) fA lA 0 ln fn ML MW CM M u q = some (r, 0, 0, b1, b2, M', b3, b4) ∧ ∀ j, j < 372 → M' j = M j) ∨
    (∃ e r, (e = 1 ∨ e = 2) ∧ f_X11_winters x y z w (nI S) (nI P) fF fT lF lT L mems W CC C tg fo pr pm v t tr = some (.inl e) ∧ f_X12_winters x y z w th (nI S) (nI P) fA lA 0 ln fn ML MW CM M u q = some (r, nI e, 0, ln, fn, M, u, q)) := by
  obtain ⟨hP, hS, hlen, hF, hW, -, -⟩ := id hT
  unfold f_X11_winters f_X12_winters
  rcases n_person hP x with ⟨p, hp, e⟩ | ⟨e1, e2⟩
  · subst e
    rw [(n_person_t hp hP).1, (n_person_t hp hP).2, g_bx1_r, g_b2_s, if_neg n10]
    rcases n_song hS y with ⟨s, hs, e⟩ | ⟨e1, e2⟩
    · subst e
      have hl := hlen s hs
      rw [(n_song_t hs hS).1, (n_song_t hs hS).2, g_bx1_r, g_b2_s, if_neg n10]
      unfold f_X12_within
      have no : f_X12_winters_47 0 (nI p) (nI s) z w 0 (nI S) (nI P) fA lA 0 ln fn ML MW CM M u q = some (0, 2, 0, ln, fn, M, u, q) := by
        unfold f_X12_winters_47
        rw [n_r02, g_b2_s, if_pos rfl]
      by_cases c1 : z < 1
      · rw [if_pos c1, if_pos c1, gs_b1_s, if_pos rfl, no]
        exact Or.inr ⟨2, _, Or.inr rfl, rfl, rfl⟩
      · rw [if_neg c1, if_neg c1]
        by_cases c2 : (5 : Int32) < z
        · rw [if_pos c2, if_pos c2, gs_b1_s, if_pos rfl, no]
          exact Or.inr ⟨2, _, Or.inr rfl, rfl, rfl⟩
        · rw [if_neg c2, if_neg c2, gs_b1_s, if_neg n10]
          by_cases c3 : w < 0
          · rw [if_pos c3, if_pos c3, gs_b1_s, if_pos rfl, no]
            exact Or.inr ⟨2, _, Or.inr rfl, rfl, rfl⟩
          · rw [if_neg c3, if_neg c3]
            by_cases c4 : w ≤ 10
            · obtain ⟨n, hn, e⟩ : ∃ n, n ≤ 5 ∧ z = nI n := by
                refine nI_of2 (M := 5) rfl (fun q => c1 ?_) (n_le c2)
                rw [Int32.lt_iff_toInt_lt] at q ⊢
                have a1 : (0 : Int32).toInt = 0 := rfl
                have a2 : (1 : Int32).toInt = 1 := rfl
                omega
              subst e
              obtain ⟨tn, htn, e⟩ : ∃ n, n ≤ 10 ∧ w = nI n := nI_of2 (M := 10) rfl c3 c4
              subst e
              rw [if_pos c4, if_neg (n_nlt c4), gs_b1_s, if_neg n10]
              unfold f_X12_winters_47
              rw [n_r12, g_b2_s, if_neg n10]
              left
              have h32 : 2 ^ n ≤ 32 := Nat.pow_le_pow_right (by decide) hn
              have hsh : (1 : Int32) <<< (nI n &&& 31) = nI (2 ^ n) := g_1shl n (by omega)
              have hr := g_run2 (z1 := fun _ _ _ _ _ _ _ => none) (b1 := f_X11_winters_49 (nI p) (nI s) (nI n) (nI tn) (nI S) (nI P) fF fT lF lT L mems W CC C pr pm)
                (z2 := fun _ _ _ _ _ _ _ _ => none) (b2 := f_X12_winters_62 (nI p) (nI s) (nI n) (nI tn) 0 (nI S) (nI P) fA lA ML MW CM)
                (ρ1 := Int32 × Int32 × Int32 × (Nat → Int32) × (Nat → Int32) × (Nat → Int32)) (ρ2 := Int32 × Int32 × Int32 × Int32 × Int32 × (Nat → Int32) × (Nat → Int32) × (Nat → Int32))
                (σ := Nat × Int32 × Int32 × Int32 × (Nat → Int32) × (Nat → Int32) × (Nat → Int32) × Int32 × Int32 × Int32 × (Nat → Int32) × (Nat → Int32) × (Nat → Int32))
                (fun K y => K y.2.1 (nI y.1) y.2.2.1 y.2.2.2.1 y.2.2.2.2.1 y.2.2.2.2.2.1 y.2.2.2.2.2.2.1)
                (fun K y => K y.2.1 (nI y.1) y.2.2.2.2.2.2.2.1 y.2.2.2.2.2.2.2.2.1 y.2.2.2.2.2.2.2.2.2.1 y.2.2.2.2.2.2.2.2.2.2.1 y.2.2.2.2.2.2.2.2.2.2.2.1 y.2.2.2.2.2.2.2.2.2.2.2.2) (fun y => 2 ^ n - y.1)
                (fun y r1 r2 => y.1 ≤ 2 ^ n → (∀ j, j < 372 → y.2.2.2.2.2.2.2.2.2.2.1 j = M j) → ∃ r a1 a2 a3 a4 a5 b1 b2 M' b3 b4, r1 = some (r, a1, a2, a3, a4, a5) ∧ r2 = some (r, 0, 0, b1, b2, M', b3, b4) ∧ ∀ j, j < 372 → M' j = M j)
                (by
                  rintro K1 K2 ⟨i, sm, tg, fo, v, t, tr, iw, ln, fn, M1, u, q⟩ ih hi hM1
                  replace hi : i ≤ 2 ^ n := hi
                  replace hM1 : ∀ j, j < 372 → M1 j = M j := hM1
                  show ∃ r a1 a2 a3 a4 a5 b1 b2 M' b3 b4, f_X11_winters_49 (nI p) (nI s) (nI n) (nI tn) (nI S) (nI P) fF fT lF lT L mems W CC C pr pm K1 sm (nI i) tg fo v t tr = _ ∧ f_X12_winters_62 (nI p) (nI s) (nI n) (nI tn) 0 (nI S) (nI P) fA lA ML MW CM K2 sm (nI i) iw ln fn M1 u q = _ ∧ _
                  have hR1 : g_R P S D len mem C M1 0 := hR.cong hP hS (fun _ _ => rfl) (fun j hj => by rw [Nat.zero_add]; exact hM1 j hj)
                  unfold f_X11_winters_49 f_X12_winters_62
                  rw [hsh]
                  rcases Nat.lt_or_ge i (2 ^ n) with hl2 | hl2
                  · have hwt := g_wt_le (Nat.testBit i) htn n
                    have h10 : 10 ^ n ≤ 10 ^ 5 := Nat.pow_le_pow_right (by decide) hn
                    rw [if_neg (nI_ge hl2 (by omega)), if_neg (nI_ge hl2 (by omega)), w_weight (by omega) hn htn, gs_b1_s, m_tries, gs_b1_s]
                    -- the model's days
                    have hin : ∃ iw' l' f' u' q', gs_it (fun _ _ _ _ _ _ _ _ => none) (f_X12_winters_80 (nI p) (nI s) (nI n) (nI tn) sm (nI i) 0 (nI S) (nI P) fA lA ML MW CM (fun (x7' : Int32) (v_t_isWinter' : Int32) (v_t_learntNow' : Int32) (v_t_forgottenNow' : Int32) (r_t_rows' : Nat → Int32) (r_t_told' : Nat → Int32) (r_t_pile' : Nat → Int32) => f_X12_winters_141 (fun (x5' : Int32) (x6' : Int32) (v_t_isWinter' : Int32) (v_t_learntNow' : Int32) (v_t_forgottenNow' : Int32) (r_t_rows' : Nat → Int32) (r_t_told' : Nat → Int32) (r_t_pile' : Nat → Int32) => K2 x5' x6' v_t_isWinter' v_t_learntNow' v_t_forgottenNow' r_t_rows' r_t_told' r_t_pile') (nI p) (nI s) (nI n) (nI tn) sm (nI i) x7' 0 (nI S) (nI P) fA lA v_t_isWinter' v_t_learntNow' v_t_forgottenNow' ML MW CM r_t_rows' r_t_told' r_t_pile')) gs_fuel 1 0 iw ln fn (g_cpy M1 M1 372 372) u q = f_X12_winters_141 (fun (x5' : Int32) (x6' : Int32) (v_t_isWinter' : Int32) (v_t_learntNow' : Int32) (v_t_forgottenNow' : Int32) (r_t_rows' : Nat → Int32) (r_t_told' : Nat → Int32) (r_t_pile' : Nat → Int32) => K2 x5' x6' v_t_isWinter' v_t_learntNow' v_t_forgottenNow' r_t_rows' r_t_told' r_t_pile') (nI p) (nI s) (nI n) (nI tn) sm (nI i) (nI (g_wt (Nat.testBit i) tn n)) 0 (nI S) (nI P) fA lA iw' l' f' ML MW CM (m_V rF rL MW P S len 372 (Nat.testBit i) (g_cpy M1 M1 372 372) n) u' q' := by
                      have h0 := hR1.tries (tr := C) hP hS
                      have hr := g_run (z := fun _ _ _ _ _ _ _ _ => none) (b := f_X12_winters_80 (nI p) (nI s) (nI n) (nI tn) sm (nI i) 0 (nI S) (nI P) fA lA ML MW CM (fun (x7' : Int32) (v_t_isWinter' : Int32) (v_t_learntNow' : Int32) (v_t_forgottenNow' : Int32) (r_t_rows' : Nat → Int32) (r_t_told' : Nat → Int32) (r_t_pile' : Nat → Int32) => f_X12_winters_141 (fun (x5' : Int32) (x6' : Int32) (v_t_isWinter' : Int32) (v_t_learntNow' : Int32) (v_t_forgottenNow' : Int32) (r_t_rows' : Nat → Int32) (r_t_told' : Nat → Int32) (r_t_pile' : Nat → Int32) => K2 x5' x6' v_t_isWinter' v_t_learntNow' v_t_forgottenNow' r_t_rows' r_t_told' r_t_pile') (nI p) (nI s) (nI n) (nI tn) sm (nI i) x7' 0 (nI S) (nI P) fA lA v_t_isWinter' v_t_learntNow' v_t_forgottenNow' ML MW CM r_t_rows' r_t_told' r_t_pile')) (ρ := Int32 × Int32 × Int32 × Int32 × Int32 × (Nat → Int32) × (Nat → Int32) × (Nat → Int32)) (σ := Nat × Int32 × Int32 × Int32 × (Nat → Int32) × (Nat → Int32)) (fun K y => K (nI (g_wt (Nat.testBit i) tn y.1)) (nI y.1) y.2.1 y.2.2.1 y.2.2.2.1 (m_V rF rL MW P S len 372 (Nat.testBit i) (g_cpy M1 M1 372 372) y.1) y.2.2.2.2.1 y.2.2.2.2.2) (fun y => n - y.1)
                        (fun y r => y.1 ≤ n → ∃ iw' l' f' u' q', r = f_X12_winters_141 (fun (x5' : Int32) (x6' : Int32) (v_t_isWinter' : Int32) (v_t_learntNow' : Int32) (v_t_forgottenNow' : Int32) (r_t_rows' : Nat → Int32) (r_t_told' : Nat → Int32) (r_t_pile' : Nat → Int32) => K2 x5' x6' v_t_isWinter' v_t_learntNow' v_t_forgottenNow' r_t_rows' r_t_told' r_t_pile') (nI p) (nI s) (nI n) (nI tn) sm (nI i) (nI (g_wt (Nat.testBit i) tn n)) 0 (nI S) (nI P) fA lA iw' l' f' ML MW CM (m_V rF rL MW P S len 372 (Nat.testBit i) (g_cpy M1 M1 372 372) n) u' q')
                        (by
                          rintro K ⟨d, iw, ln, fn, u, q⟩ ih2 hd
                          replace hd : d ≤ n := hd
                          show ∃ iw' l' f' u' q', f_X12_winters_80 (nI p) (nI s) (nI n) (nI tn) sm (nI i) 0 (nI S) (nI P) fA lA ML MW CM _ K (nI (g_wt (Nat.testBit i) tn d)) (nI d) iw ln fn (m_V rF rL MW P S len 372 (Nat.testBit i) (g_cpy M1 M1 372 372) d) u q = _
                          unfold f_X12_winters_80
                          rcases Nat.lt_or_ge d n with hd2 | hd2
                          · obtain ⟨u1, q1, e⟩ := d_M hT (Nat.le_refl 372) (w_R hT (Nat.testBit i) h0 d).1 (i.testBit d) ln fn u q
                            have e10 : (10 : Int32) - nI tn = nI (10 - tn) := pk_sub (a := 10) htn
                            have go := fun iw l f u q => ih2 (d + 1, iw, l, f, u, q) (by show n - (d + 1) < n - d; omega) (by show d + 1 ≤ n; omega)
                            simp only [g_wt] at go
                            rw [if_neg (nI_ge hd2 (by omega)), g_sb i (by omega) d (by omega)]
                            unfold f_X12_winters_125
                            cases hb : i.testBit d
                            · rw [hb] at e
                              simp only [hb, Bool.false_eq_true, if_false] at go
                              rw [if_neg (by decide), if_pos rfl, show f_X12_dayGoes 372 (nI S) (nI P) fA lA 0 ln fn ML MW CM (m_V rF rL MW P S len 372 (Nat.testBit i) (g_cpy M1 M1 372 372) d) u q = _ from e, g_b5_s, nI_1 d, e10, pk_mul]
                              have e3 : (m_dM rF rL MW P S len 372 false (m_V rF rL MW P S len 372 (Nat.testBit i) (g_cpy M1 M1 372 372) d)).1 = m_V rF rL MW P S len 372 (Nat.testBit i) (g_cpy M1 M1 372 372) (d + 1) := by
                                rw [m_V, hb]
                              rw [e3]
                              exact go _ _ _ _ _
                            · rw [hb] at e
                              simp only [hb, if_true] at go
                              rw [if_pos (by decide), if_neg n10, show f_X12_dayGoes 372 (nI S) (nI P) fA lA 1 ln fn ML MW CM (m_V rF rL MW P S len 372 (Nat.testBit i) (g_cpy M1 M1 372 372) d) u q = _ from e, g_b5_s, nI_1 d, pk_mul]
                              have e3 : (m_dM rF rL MW P S len 372 true (m_V rF rL MW P S len 372 (Nat.testBit i) (g_cpy M1 M1 372 372) d)).1 = m_V rF rL MW P S len 372 (Nat.testBit i) (g_cpy M1 M1 372 372) (d + 1) := by
                                rw [m_V, hb]
                              rw [e3]
                              exact go _ _ _ _ _
                          · have e : d = n := by omega
                            subst e
                            rw [if_pos (nI_le (Nat.le_refl _) (by omega))]
                            exact ⟨_, _, _, _, _, rfl⟩) gs_fuel (0, iw, ln, fn, u, q) (by show n - 0 < gs_fuel; rw [gs_fuel_eq]; omega) (Nat.zero_le _)
                      obtain ⟨iw', l', f', u', q', hr⟩ := hr
                      exact ⟨iw', l', f', u', q', hr⟩
                    obtain ⟨iw', l', f', u', q', hin⟩ := hin
                    rw [hin]
                    unfold f_X12_winters_141
                    obtain ⟨hrr, hlo⟩ := w_R hT (Nat.testBit i) (hR1.tries (tr := tr) hP hS) n
                    have hlo' : ∀ j, j < 372 → m_V rF rL MW P S len 372 (Nat.testBit i) (g_cpy M1 M1 372 372) n j = M j := fun j hj => (hlo j (Or.inl hj)).trans ((g_tries_lo hj).trans (hM1 j hj))
                    obtain ⟨a1, a2, a3, a4, hbe⟩ := w_behind hT hm hR1 (p := p) (s := s) (m := i) (n := n) hp hs (by omega) hn tg fo v t tr
                    generalize m_V rF rL MW P S len 372 (Nat.testBit i) (g_cpy M1 M1 372 372) n = M2 at hrr hlo' ⊢
                    generalize g_cV rF rL mem W P S len (Nat.testBit i) (g_cpy C tr 0 78) n = C2 at hrr hbe ⊢
                    have e3 : f_X12_wholeOnes 372 (nI s) (nI P) ML M2 = some (nI (g_mk (fun p => m_H M2 372 p s && (g_mk (m_nA M2 372 p s) (len s) == 0)) P)) := m_wholeOnes (b := 372) (by omega) (by omega) hP hl.2.1 hl.2.2.2
                    have e4 : g_wh C2 (len s) p s = (m_H M2 372 p s && (g_mk (m_nA M2 372 p s) (len s) == 0)) := by
                      unfold g_wh
                      rw [v_H hrr hp hs, v_gaps hrr hp hs hl.2.2.2]
                    rw [e3, gs_b1_s, hbe, g_b6_s, nI_1 i]
                    have hbit := w_bit (g := fun p => m_H M2 372 p s && (g_mk (m_nA M2 372 p s) (len s) == 0)) hP hp
                    have go := fun (a b c : Int32) (d e f : Nat → Int32) (g h m : Int32) (k l1 l2 : Nat → Int32) (z : ∀ j, j < 372 → k j = M j) => ih (i + 1, a, b, c, d, e, f, g, h, m, k, l1, l2) (by show 2 ^ n - (i + 1) < 2 ^ n - i; omega) (by show i + 1 ≤ 2 ^ n; omega) z
                    by_cases e5 : g_wh C2 (len s) p s = true
                    · rw [if_pos (hbit.mpr (e4.symm.trans e5)), if_pos e5, if_neg n10]
                      by_cases e6 : nI (g_wt (Nat.testBit i) tn n) ≤ 0
                      · have e7 : g_wt (Nat.testBit i) tn n = 0 := by
                          rcases Nat.eq_zero_or_pos (g_wt (Nat.testBit i) tn n) with h | h
                          · exact h
                          · exact absurd e6 (nI_nle h (by omega))
                        rw [if_pos e6, e7, nI_0, g_add0]
                        exact go _ _ _ _ _ _ _ _ _ _ _ _ hlo'
                      · rw [if_neg e6]
                        exact go _ _ _ _ _ _ _ _ _ _ _ _ hlo'
                    · rw [if_neg (fun z => e5 (e4.trans (hbit.mp z))), if_neg e5, if_pos rfl, g_add0]
                      by_cases e6 : nI (g_wt (Nat.testBit i) tn n) ≤ 0
                      · rw [if_pos e6]
                        exact go _ _ _ _ _ _ _ _ _ _ _ _ hlo'
                      · rw [if_neg e6]
                        exact go _ _ _ _ _ _ _ _ _ _ _ _ hlo'
                  · have e : i = 2 ^ n := by omega
                    subst e
                    rw [if_pos (nI_le (Nat.le_refl _) (by omega)), if_pos (nI_le (Nat.le_refl _) (by omega))]
                    exact ⟨_, _, _, _, _, _, _, _, _, _, _, rfl, rfl, hM1⟩) gs_fuel (0, 0, tg, fo, v, t, tr, 0, ln, fn, M, u, q) (by show 2 ^ n - 0 < gs_fuel; rw [gs_fuel_eq]; omega) (Nat.zero_le _) (fun _ _ => rfl)
              obtain ⟨r, a1, a2, a3, a4, a5, b1, b2, M', b3, b4, r1, r2, hM'⟩ := hr
              refine ⟨r, a1, a2, a3, a4, a5, b1, b2, M', b3, b4, ?_, ?_, hM'⟩
              · have r1' : gs_it (fun _ _ _ _ _ _ _ => none) (f_X11_winters_49 (nI p) (nI s) (nI n) (nI tn) (nI S) (nI P) fF fT lF lT L mems W CC C pr pm) gs_fuel 0 (nI 0) tg fo v t tr = _ := r1
                rw [nI_0] at r1'
                rw [r1']
                rfl
              · have r2' : gs_it (fun _ _ _ _ _ _ _ _ => none) (f_X12_winters_62 (nI p) (nI s) (nI n) (nI tn) 0 (nI S) (nI P) fA lA ML MW CM) gs_fuel 0 (nI 0) 0 ln fn M u q = _ := r2
                rw [nI_0] at r2'
                exact r2'
            · rw [if_neg c4, if_pos (n_lt c4), gs_b1_s, if_pos rfl, no]
              exact Or.inr ⟨2, _, Or.inr rfl, rfl, rfl⟩
    · rw [e1, e2, g_bx1_l, g_b2_s, if_pos rfl]
      exact Or.inr ⟨1, _, Or.inl rfl, rfl, rfl⟩
  · rw [e1, e2, g_bx1_l, g_b2_s, if_pos rfl]
    exact Or.inr ⟨1, _, Or.inl rfl, rfl, rfl⟩
end WI
