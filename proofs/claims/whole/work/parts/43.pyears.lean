/-! ===== pure rows: two loops side by side; years ===== -/
theorem g_run2 {F1 F2 σ ρ1 ρ2 : Type} {z1 : F1} {b1 : F1 → F1} {z2 : F2} {b2 : F2 → F2} (ap1 : F1 → σ → Option ρ1) (ap2 : F2 → σ → Option ρ2) (μ : σ → Nat) (Q : σ → Option ρ1 → Option ρ2 → Prop)
    (h : ∀ K1 K2 x, (∀ y, μ y < μ x → Q y (ap1 K1 y) (ap2 K2 y)) → Q x (ap1 (b1 K1) x) (ap2 (b2 K2) x)) : ∀ n x, μ x < n → Q x (ap1 (gs_it z1 b1 n) x) (ap2 (gs_it z2 b2 n) x) := by
  intro n
  induction n with
  | zero => intro x hx; exact absurd hx (Nat.not_lt_zero _)
  | succ n ih =>
    intro x hx
    rw [gs_it_s, gs_it_s]
    exact h _ _ x (fun y hy => ih y (by omega))
/-- a number drawn, alike in both -/
theorem y_draw {n : Nat} (h0 : 0 < n) (hn : n < 1000) (sd : Int32) : ∃ d s', d < n ∧ f_X1_draw (nI n) sd = some (nI d, s') ∧ f_X12_draw (nI n) sd = some (nI d, s') := by
  unfold f_X1_draw f_X12_draw
  generalize sd * 1103515245 + 12345 = z
  have e1 : (gs_ushr z 16) &&& 32767 = nI (z.toBitVec.toNat / 2 ^ 16 % 2 ^ 15) := by
    rw [pk_and _ 15 (by decide)]
    have := t_ushr z (k := 16) (by omega)
    rw [show (16 : Int32) = nI 16 from rfl, this]
  have e2 : (z >>> ((16 : Int32) &&& 31)) &&& 32767 = nI (z.toBitVec.toNat / 2 ^ 16 % 2 ^ 15) := t_shrG z 32767 (k := 16) (j := 15) (by omega) (by omega) (by decide)
  rw [e1, e2]
  have hq : z.toBitVec.toNat / 2 ^ 16 % 2 ^ 15 < 2 ^ 15 := Nat.mod_lt _ (by decide)
  generalize z.toBitVec.toNat / 2 ^ 16 % 2 ^ 15 = q at hq
  rw [if_neg (nI_nle h0 (by omega)), gs_gd_t (decide_eq_true (nI_ne0 h0 (by omega))), pk_rem (by omega) h0 (by omega)]
  exact ⟨q % n, z, Nat.mod_lt _ h0, rfl, rfl⟩
section YR
variable {P S D : Nat} {len mem : Nat → Nat} {rF rL : Option (List Nat)} {C M L Fs W CC ML MF MW CM mems : Nat → Int32} {fF fT lF lT fA lA pr pm th : Int32}
/-- what chance does ahead of a day -/
theorem y_chance (hP : P ≤ 7) (hS : S ≤ 5) (hR : g_R P S D len mem C M 372) (sd : Int32) : ∃ s' C' M', f_X1_chance sd (nI S) (nI P) C = some (s', C') ∧ f_X12_happens (nI S) (nI P) sd M = some (s', M') ∧ g_R P S D len mem C' M' 372 ∧ ∀ j, j < 372 → M' j = M j := by
  unfold f_X1_chance f_X12_happens
  obtain ⟨kd, s1, hkd, c1, m1⟩ := y_draw (n := 5) (by omega) (by omega) sd
  rw [show f_X1_draw 5 sd = _ from c1, show f_X12_draw 5 sd = _ from m1, g_b2_s, g_b2_s]
  by_cases h1 : (1 : Int32) < nI kd
  · rw [if_pos h1, if_pos h1]
    exact ⟨_, _, _, rfl, rfl, hR, fun _ _ => rfl⟩
  · rw [if_neg h1, if_neg h1]
    by_cases h2 : nI P = 0
    · rw [if_pos h2, if_pos h2]
      exact ⟨_, _, _, rfl, rfl, hR, fun _ _ => rfl⟩
    · rw [if_neg h2, if_neg h2]
      by_cases h3 : nI S = 0
      · rw [if_pos h3, if_pos h3]
        exact ⟨_, _, _, rfl, rfl, hR, fun _ _ => rfl⟩
      · rw [if_neg h3, if_neg h3]
        have hP0 : 0 < P := Nat.pos_of_ne_zero (fun e => h2 (by rw [e]; rfl))
        have hS0 : 0 < S := Nat.pos_of_ne_zero (fun e => h3 (by rw [e]; rfl))
        obtain ⟨p, s2, hp, c2, m2⟩ := y_draw (n := P) hP0 (by omega) s1
        obtain ⟨s, s3, hs, c3, m3⟩ := y_draw (n := S) hS0 (by omega) s2
        rw [c2, m2, g_b2_s, g_b2_s, c3, m3, g_b2_s, g_b2_s]
        by_cases h4 : nI kd = 1
        · have hH := v_H hR hp hs
          have hh : f_X12_doesHave 372 (nI p) (nI s) M = some (if m_H M 372 p s = true then 1 else 0) := m_has (b := 372) (by omega) (by omega) (by omega) M
          rw [if_pos h4, if_pos h4, g_drop (by omega) (by omega), gs_b1_s, hh, gs_b1_s]
          by_cases e : m_H M 372 p s = true
          · have e4 : f_X12_givesUp 372 (nI p) (nI s) M = some (upd (g_cpy (fun _ => -1) M (372 + (1 + 40 * p + 8 * s)) 8) (372 + 281 + 5 * p + s) 0) := m_givesUp (b := 372) (by omega) (by omega) (by omega)
            rw [if_pos e, if_neg n10, e4, gs_b1_s]
            refine ⟨_, _, _, rfl, rfl, hR.give hP hS hp hs, fun j hj => ?_⟩
            rw [pk_un (by omega), g_cpy_out (by omega)]
          · have q2 : C (8 + 5 * p + s) = -1 := Decidable.byContradiction (fun z => e (hH.symm.trans (g_H_iff.mpr z)))
            have e5 : upd C (8 + 5 * p + s) (-1) = C := by
              funext j
              unfold upd
              split
              · rename_i hj
                rw [hj, q2]
              · rfl
            rw [if_neg e, if_pos rfl, e5]
            exact ⟨_, _, _, rfl, rfl, hR, fun _ _ => rfl⟩
        · rw [if_neg h4, if_neg h4]
          obtain ⟨o, s4, ho, c4, m4⟩ := y_draw (n := P) hP0 (by omega) s3
          rw [c4, m4, g_b2_s, g_b2_s]
          have i1 : (723 : Int32) + nI p = nI (723 + p) := nI_add 723 p
          have i2 : (730 : Int32) + nI p = nI (730 + p) := nI_add 730 p
          have seek : ∀ {v a b : Int32}, ((v = -1 ∧ a = -1 ∧ b = -1) ∨ ∃ s o, s < S ∧ o < P ∧ v = nI (7 * s + o) ∧ a = nI s ∧ b = nI o) → g_R P S D len mem (upd C (1 + p) v) (upd (upd M (723 + p) a) (730 + p) b) 372 := by
            intro v a b hc
            refine hR.seek hP hS hp (fun j hj => pk_un hj) (fun j _ h1 h2 => ?_) ?_
            · rw [pk_un (by omega), pk_un (by omega)]
            · have e1 : upd (upd M (723 + p) a) (730 + p) b (372 + 351 + p) = a := by
                rw [pk_un (by omega), show 372 + 351 + p = 723 + p by omega, pk_us]
              have e2 : upd (upd M (723 + p) a) (730 + p) b (372 + 358 + p) = b := by
                rw [show 372 + 358 + p = 730 + p by omega, pk_us]
              unfold g_sk
              rw [e1, e2, pk_us]
              exact hc
          unfold f_X12_happens_101
          rw [i1, i2, gs_gd_t (gs_in_nI (by omega) (by decide)), gs_gd_t (gs_in_nI (by omega) (by decide)), gs_gd_t (gs_in_nI (by omega) (by decide)), nI_clamp (by omega), nI_clamp (by omega)]
          by_cases h5 : nI o = nI p
          · rw [if_pos h5, if_pos h5, g_seekNothing (by omega), gs_b1_s]
            refine ⟨_, _, _, rfl, ?_, seek (Or.inl ⟨rfl, rfl, rfl⟩), fun j hj => ?_⟩
            · rw [if_pos h5]
            · rw [pk_un (by omega), pk_un (by omega)]
          · rw [if_neg h5, if_neg h5, g_setSought (by omega), gs_b1_s]
            refine ⟨_, _, _, rfl, ?_, seek (Or.inr ⟨s, o, hs, ho, rfl, rfl, rfl⟩), fun j hj => ?_⟩
            · rw [if_neg h5, gs_gd_t (gs_in_nI (by omega) (by decide)), gs_gd_t (gs_in_nI (by omega) (by decide))]
            · rw [pk_un (by omega), pk_un (by omega)]
theorem o_years (hT : g_T P S len rF rL L Fs W CC fF fT lF lT ML MF MW CM fA lA) (hm : ∀ p, p < P → f_X1_memoryOf (nI p) pr pm mems = some (nI (mem p))) (hR : g_R P S D len mem C M 0) (x y z : Int32) (tg fo sd ln fn it : Int32) (v t tr u q : Nat → Int32) :
    (∃ w a1 a2 a3 a4 a5 a6 b1 b2 b3 M' b4 b5, f_X11_years x y z (nI S) (nI P) fF fT lF lT L mems W CC C tg fo pr pm sd v t tr = some (.inr (w, a1, a2, a3, a4, a5, a6)) ∧ f_X12_years x y z th (nI S) (nI P) fA lA 0 ln fn it ML MW CM M u q = some (w, 0, b1, b2, b3, M', b4, b5) ∧ ∀ j, j < 372 → M' j = M j) ∨
    (∃ e w, (e = 1 ∨ e = 2) ∧ f_X11_years x y z (nI S) (nI P) fF fT lF lT L mems W CC C tg fo pr pm sd v t tr = some (.inl e) ∧ f_X12_years x y z th (nI S) (nI P) fA lA 0 ln fn it ML MW CM M u q = some (w, nI e, ln, fn, it, M, u, q)) := by
  obtain ⟨hP, hS, hlen, hF, hW, -, -⟩ := id hT
  unfold f_X11_years f_X12_years
  rcases n_what3 z with ⟨k, hk, e, e1, e2⟩ | ⟨e1, e2⟩
  · subst e
    rw [e1, e2, g_bx1_r, g_b2_s, if_neg n10]
    rcases n_days y with ⟨n, hn, e, e1, e2, -⟩ | ⟨e1, e2, -⟩
    · subst e
      have h0 := hR.tries (tr := tr) hP hS
      rw [e1, e2, g_bx1_r, g_b2_s, if_neg n10, g_copyRow, gs_b1_s, m_tries, gs_b1_s]
      left
      have hr := g_run2 (z1 := fun _ _ _ _ _ _ _ => none) (b1 := f_X11_years_38 (nI n) (nI k) (nI S) (nI P) fF fT lF lT L mems W CC pr pm (fun (v_t_course_taught' : Int32) (v_t_course_forgotten' : Int32) (v_t_course_seed' : Int32) (r_t_course_reckoner_values' : Nat → Int32) (r_t_course_reckoner_stack' : Nat → Int32) (r_t_trial_row' : Nat → Int32) => f_X11_years_73 (nI k) (nI S) (nI P) L v_t_course_taught' v_t_course_forgotten' v_t_course_seed' r_t_course_reckoner_values' r_t_course_reckoner_stack' r_t_trial_row'))
        (z2 := fun _ _ _ _ _ _ _ _ => none) (b2 := f_X12_years_41 (nI n) (nI k) 0 (nI S) (nI P) fA lA 0 ML MW CM (fun (x4' : Int32) (v_t_learntNow' : Int32) (v_t_forgottenNow' : Int32) (v_t_its0' : Int32) (r_t_rows' : Nat → Int32) (r_t_told' : Nat → Int32) (r_t_pile' : Nat → Int32) => f_X12_years_73 (nI k) x4' 0 (nI S) (nI P) v_t_learntNow' v_t_forgottenNow' v_t_its0' ML r_t_rows' r_t_told' r_t_pile'))
        (ρ1 := Int32 × Int32 × Int32 × Int32 × (Nat → Int32) × (Nat → Int32) × (Nat → Int32)) (ρ2 := Int32 × Int32 × Int32 × Int32 × Int32 × (Nat → Int32) × (Nat → Int32) × (Nat → Int32))
        (σ := Nat × Int32 × Int32 × Int32 × (Nat → Int32) × (Nat → Int32) × (Nat → Int32) × Int32 × Int32 × (Nat → Int32) × (Nat → Int32) × (Nat → Int32))
        (fun K y => K (nI y.1) y.2.1 y.2.2.1 y.2.2.2.1 y.2.2.2.2.1 y.2.2.2.2.2.1 y.2.2.2.2.2.2.1)
        (fun K y => K y.2.1 (nI y.1) y.2.2.2.2.2.2.2.1 y.2.2.2.2.2.2.2.2.1 y.2.2.2.1 y.2.2.2.2.2.2.2.2.2.1 y.2.2.2.2.2.2.2.2.2.2.1 y.2.2.2.2.2.2.2.2.2.2.2) (fun y => n - y.1)
        (fun y r1 r2 => y.1 ≤ n → (∃ D', g_R P S D' len mem y.2.2.2.2.2.2.1 y.2.2.2.2.2.2.2.2.2.1 372) → (∀ j, j < 372 → y.2.2.2.2.2.2.2.2.2.1 j = M j) → ∃ w a1 a2 a3 a4 a5 a6 b1 b2 b3 M' b4 b5, r1 = some (w, a1, a2, a3, a4, a5, a6) ∧ r2 = some (w, 0, b1, b2, b3, M', b4, b5) ∧ ∀ j, j < 372 → M' j = M j)
        (by
          rintro K1 K2 ⟨i, tg, fo, sd, v, t, C1, ln, fn, M1, u, q⟩ ih hi hR1 hM1
          replace hi : i ≤ n := hi
          replace hM1 : ∀ j, j < 372 → M1 j = M j := hM1
          obtain ⟨D', hR1⟩ := hR1
          replace hR1 : g_R P S D' len mem C1 M1 372 := hR1
          show ∃ w a1 a2 a3 a4 a5 a6 b1 b2 b3 M' b4 b5, f_X11_years_38 (nI n) (nI k) (nI S) (nI P) fF fT lF lT L mems W CC pr pm _ K1 (nI i) tg fo sd v t C1 = _ ∧ f_X12_years_41 (nI n) (nI k) 0 (nI S) (nI P) fA lA 0 ML MW CM _ K2 tg (nI i) ln fn sd M1 u q = _ ∧ _
          unfold f_X11_years_38 f_X12_years_41
          rcases Nat.lt_or_ge i n with hl2 | hl2
          · obtain ⟨s', C2, M2, k1, k2, hR2, hM2⟩ := y_chance hP hS hR1 sd
            rw [if_neg (nI_ge hl2 (by omega)), if_neg (nI_ge hl2 (by omega)), k1, k2, g_b2_s, g_b2_s]
            obtain ⟨v1, t1, c1⟩ := d_C hT hm hR2 false tg fo v t
            obtain ⟨u1, q1, m1⟩ := d_M hT (Nat.le_refl 372) hR2 false ln fn u q
            obtain ⟨d1, d2, d3⟩ := d_R hT hR2 false
            rw [show f_X1_passDay 0 tg fo pr pm (nI S) (nI P) fF fT lF lT L mems W CC v t C2 = _ from c1, show f_X12_dayGoes 372 (nI S) (nI P) fA lA 0 ln fn ML MW CM M2 u q = _ from m1, g_b5_s, g_b5_s, nI_1 i, d2]
            exact ih (i + 1, _, _, s', v1, t1, _, _, _, _, u1, q1) (by show n - (i + 1) < n - i; omega) (by show i + 1 ≤ n; omega) ⟨_, d1⟩ (fun j hj => (d3 j (Or.inl hj)).trans ((hM2 j hj).trans (hM1 j hj)))
          · have e : i = n := by omega
            subst e
            rw [if_pos (nI_le (Nat.le_refl _) (by omega)), if_pos (nI_le (Nat.le_refl _) (by omega))]
            show ∃ w a1 a2 a3 a4 a5 a6 b1 b2 b3 M' b4 b5, f_X11_years_73 (nI k) (nI S) (nI P) L tg fo sd v t C1 = _ ∧ f_X12_years_73 (nI k) tg 0 (nI S) (nI P) ln fn sd ML M1 u q = _ ∧ _
            unfold f_X11_years_73 f_X12_years_73
            have hc : k = 0 ∨ k = 1 ∨ k = 2 := by omega
            rcases hc with h | h | h <;> subst h
            · rw [if_pos nI_0, if_pos nI_0]
              exact ⟨_, _, _, _, _, _, _, _, _, _, _, _, _, rfl, rfl, hM1⟩
            · have e3 : f_X12_gapsAll 372 (nI S) (nI P) ML M1 = some (nI (g_sum (fun p => g_sum (fun s => if m_H M1 372 p s = true then g_ct (m_nA M1 372 p s) (len s) else 0) S) P)) := m_gapsAll (b := 372) len (by omega) hP hS (fun s hs => ⟨(hlen s hs).2.1, (hlen s hs).2.2.2⟩)
              rw [if_neg (c := nI 1 = 0) (by decide), if_neg (c := nI 1 = 0) (by decide), if_pos (c := nI 1 = 1) (by decide), if_pos (c := nI 1 = 1) (by decide), g_gapsOfAll len hP hS (fun s hs => ⟨(hlen s hs).1, (hlen s hs).2.2.2⟩), gs_b1_s, e3, gs_b1_s, g_sum_cong (h := fun p => g_sum (fun s => if m_H M1 372 p s = true then g_ct (m_nA M1 372 p s) (len s) else 0) S) (fun p hp => g_sum_cong (fun s hs => v_gsum hR1 hp hs (hlen s hs).2.2.2))]
              exact ⟨_, _, _, _, _, _, _, _, _, _, _, _, _, rfl, rfl, hM1⟩
            · have e3 : f_X12_lostOnes 372 (nI S) (nI P) M1 = some (nI (g_mk (fun s => g_mk (fun p => m_H M1 372 p s) P == 0) S)) := m_lostOnes (b := 372) (by omega) hS hP
              rw [if_neg (c := nI 2 = 0) (by decide), if_neg (c := nI 2 = 0) (by decide), if_neg (c := nI 2 = 1) (by decide), if_neg (c := nI 2 = 1) (by decide), g_unsung hS hP, gs_b1_s, g_bc _ (by omega), gs_b1_s, e3, gs_b1_s, g_bits _ (by omega), gs_b1_s, g_ct_cong (h := fun s => g_mk (fun p => m_H M1 372 p s) P == 0) (fun s hs => by rw [v_who hR1 hs])]
              exact ⟨_, _, _, _, _, _, _, _, _, _, _, _, _, rfl, rfl, hM1⟩) gs_fuel (0, 0, 0, x, v, t, g_cpy C tr 0 78, ln, fn, g_cpy M M 372 372, u, q) (by show n - 0 < gs_fuel; rw [gs_fuel_eq]; omega) (Nat.zero_le _) ⟨_, h0⟩ (fun j hj => g_tries_lo hj)
      obtain ⟨w, a1, a2, a3, a4, a5, a6, b1, b2, b3, M', b4, b5, r1, r2, hM'⟩ := hr
      refine ⟨w, a1, a2, a3, a4, a5, a6, b1, b2, b3, M', b4, b5, ?_, ?_, hM'⟩
      · have r1' : gs_it (fun _ _ _ _ _ _ _ => none) (f_X11_years_38 (nI n) (nI k) (nI S) (nI P) fF fT lF lT L mems W CC pr pm (fun (v_t_course_taught' : Int32) (v_t_course_forgotten' : Int32) (v_t_course_seed' : Int32) (r_t_course_reckoner_values' : Nat → Int32) (r_t_course_reckoner_stack' : Nat → Int32) (r_t_trial_row' : Nat → Int32) => f_X11_years_73 (nI k) (nI S) (nI P) L v_t_course_taught' v_t_course_forgotten' v_t_course_seed' r_t_course_reckoner_values' r_t_course_reckoner_stack' r_t_trial_row')) gs_fuel (nI 0) 0 0 x v t (g_cpy C tr 0 78) = _ := r1
        rw [nI_0] at r1'
        unfold f_X1_countAnew f_X1_sow
        rw [g_b2_s, gs_b1_s, r1']
        rfl
      · have r2' : gs_it (fun _ _ _ _ _ _ _ _ => none) (f_X12_years_41 (nI n) (nI k) 0 (nI S) (nI P) fA lA 0 ML MW CM (fun (x4' : Int32) (v_t_learntNow' : Int32) (v_t_forgottenNow' : Int32) (v_t_its0' : Int32) (r_t_rows' : Nat → Int32) (r_t_told' : Nat → Int32) (r_t_pile' : Nat → Int32) => f_X12_years_73 (nI k) x4' 0 (nI S) (nI P) v_t_learntNow' v_t_forgottenNow' v_t_its0' ML r_t_rows' r_t_told' r_t_pile')) gs_fuel 0 (nI 0) ln fn x (g_cpy M M 372 372) u q = _ := r2
        rw [nI_0] at r2'
        exact r2'
    · rw [e1, e2, g_bx1_l, g_b2_s, if_pos rfl]
      exact Or.inr ⟨2, _, Or.inr rfl, rfl, rfl⟩
  · rw [e1, e2, g_bx1_l, g_b2_s, if_pos rfl]
    exact Or.inr ⟨1, _, Or.inl rfl, rfl, rfl⟩
end YR
