/-! ===== pure rows: game, the couples that rest ===== -/
theorem gm_rest {P n s p o : Nat} {G : Bool → Bool → Nat → Int32} {gn : Nat → Int32} (hP : P ≤ 7) (hn : n ≤ 8) {g h : Bool → Bool → Nat} (hg : ∀ x y, g x y < 100) (hh : ∀ x y, h x y < 100) (h0 : ∀ c, c < 4 → gn (2 * c) = nI (g (decide (2 ≤ c)) (c % 2 == 1)) ∧ gn (2 * c + 1) = nI (h (decide (2 ≤ c)) (c % 2 == 1))) (k : Nat) :
    f_X11_restingCouples (nI k) gn = some (if nI k = 0 then (g_rs (fun c => decide (g (!decide (2 ≤ c)) (c % 2 == 1) ≤ g (decide (2 ≤ c)) (c % 2 == 1)) && decide (h (decide (2 ≤ c)) (!(c % 2 == 1)) ≤ h (decide (2 ≤ c)) (c % 2 == 1))) 4).1 else (g_rs (fun c => decide (g (!decide (2 ≤ c)) (c % 2 == 1) ≤ g (decide (2 ≤ c)) (c % 2 == 1)) && decide (h (decide (2 ≤ c)) (!(c % 2 == 1)) ≤ h (decide (2 ≤ c)) (c % 2 == 1))) 4).2) := by
  generalize hok : (fun c => decide (g (!decide (2 ≤ c)) (c % 2 == 1) ≤ g (decide (2 ≤ c)) (c % 2 == 1)) && decide (h (decide (2 ≤ c)) (!(c % 2 == 1)) ≤ h (decide (2 ≤ c)) (c % 2 == 1))) = ok
  unfold f_X11_restingCouples
  refine g_la2 4 (fun i => (g_rs ok i).1) (fun i => (g_rs ok i).2) (by omega) rfl rfl (fun K c hc => ?_) (fun K => ?_)
  · have tab := gm_tab c hc
    have x2 := gm_x2 c hc
    have x1 := gm_x1 c hc
    have okc : ok c = (decide (g (!decide (2 ≤ c)) (c % 2 == 1) ≤ g (decide (2 ≤ c)) (c % 2 == 1)) && decide (h (decide (2 ≤ c)) (!(c % 2 == 1)) ≤ h (decide (2 ≤ c)) (c % 2 == 1))) := (congrFun hok c).symm
    have i0 : (2 : Int32) * nI c = nI (2 * c) := pk_mul 2 c
    have i1 : nI (2 * c) + 1 = nI (2 * c + 1) := nI_1 _
    have j0 : (2 : Int32) * (nI c ^^^ 2) = nI (2 * g_c2 c) := by rw [x2.1]; exact pk_mul 2 _
    have j1 : (2 : Int32) * (nI c ^^^ 1) + 1 = nI (2 * g_c1x c + 1) := by
      rw [x1.1, show (2 : Int32) = nI 2 from rfl, pk_mul, nI_1]
    have hgc := h0 c hc
    have hg2 := (h0 (g_c2 c) x2.2.1).1
    have hg1 := (h0 (g_c1x c) x1.2.1).2
    rw [x2.2.2.1, x2.2.2.2] at hg2
    rw [x1.2.2.1, x1.2.2.2] at hg1
    have l1 := hg (decide (2 ≤ c)) (c % 2 == 1)
    have l2 := hg (!decide (2 ≤ c)) (c % 2 == 1)
    have l3 := hh (decide (2 ≤ c)) (c % 2 == 1)
    have l4 := hh (decide (2 ≤ c)) (!(c % 2 == 1))
    unfold f_X11_restingCouples_7 f_X11_restingCouples_41 f_X11_restingCouples_75
    rw [if_neg (show ¬ (4 : Int32) ≤ nI c from nI_ge (b := 4) hc (by omega)), i0, j0, i1, j1, gs_gd_t (gs_in_nI (i := 2 * g_c2 c) (n := 8) (by omega) (by decide)), gs_gd_t (gs_in_nI (i := 2 * c) (n := 8) (by omega) (by decide)), gs_gd_t (gs_in_nI (i := 2 * g_c1x c + 1) (n := 8) (by omega) (by decide)), gs_gd_t (gs_in_nI (i := 2 * c + 1) (n := 8) (by omega) (by decide)), gs_gd_t (gs_in_nI (i := 2 * g_c1x c + 1) (n := 8) (by omega) (by decide)), gs_gd_t (gs_in_nI (i := 2 * c + 1) (n := 8) (by omega) (by decide)), nI_clamp (n := 2 * c) (by omega), nI_clamp (n := 2 * g_c2 c) (by omega), nI_clamp (n := 2 * c + 1) (by omega), nI_clamp (n := 2 * g_c1x c + 1) (by omega), hgc.1, hgc.2, hg2, hg1, tab.2.2.2.2]
    simp only [g_rs, nI_1 c]
    by_cases e1 : g (!decide (2 ≤ c)) (c % 2 == 1) ≤ g (decide (2 ≤ c)) (c % 2 == 1)
    · rw [if_neg (nI_nlt e1 (by omega))]
      by_cases e2 : h (decide (2 ≤ c)) (!(c % 2 == 1)) ≤ h (decide (2 ≤ c)) (c % 2 == 1)
      · have e3 : ok c = true := by rw [okc, decide_eq_true e1, decide_eq_true e2]; rfl
        rw [if_neg (nI_nlt e2 (by omega)), if_neg n10, if_neg n10, e3]
        simp only [if_true]
        by_cases e4 : (g_rs ok c).2 = -1
        · rw [if_pos e4, if_pos e4]
        · rw [if_neg e4, if_neg e4]
      · have e3 : ok c = false := by rw [okc, decide_eq_false e2, Bool.and_false]
        rw [if_pos (nI_lt (by omega) (by omega)), if_neg n10, if_pos trivial, e3]
        simp only [Bool.false_eq_true, if_false]
    · have e3 : ok c = false := by rw [okc, decide_eq_false e1, Bool.false_and]
      rw [if_pos (nI_lt (by omega) (by omega)), e3]
      simp only [Bool.false_eq_true, if_false, if_true]
      split <;> rfl
  · unfold f_X11_restingCouples_7
    rw [if_pos (show (4 : Int32) ≤ nI 4 from nI_le (a := 4) (Nat.le_refl _) (by omega))]
    by_cases e : nI k = 0
    · rw [if_pos e, if_pos e]
    · rw [if_neg e, if_neg e]
section GG
variable {P S D : Nat} {len mem : Nat → Nat} {rF rL : Option (List Nat)} {C M L Fs W CC ML MF MW CM mems : Nat → Int32} {fF fT lF lT fA lA pr pm th : Int32}
theorem o_game (hT : g_T P S len rF rL L Fs W CC fF fT lF lT ML MF MW CM fA lA) (hm : ∀ p, p < P → f_X1_memoryOf (nI p) pr pm mems = some (nI (mem p))) (hR : g_R P S D len mem C M 0) (x y z w : Int32) (tg fo ln fn : Int32) (v t tr gn u q : Nat → Int32) :
    (∃ r a1 a2 a3 a4 a5 a6 b1 b2 M' b3 b4, f_X11_game x y z w (nI S) (nI P) fF fT lF lT L mems W CC C tg fo pr pm v t tr gn = some (.inr (r, a1, a2, a3, a4, a5, a6)) ∧ f_X12_game x y z w th (nI S) (nI P) fA lA 0 ln fn ML MW CM M u q = some (r, 0, b1, b2, M', b3, b4) ∧ ∀ j, j < 372 → M' j = M j) ∨
    (∃ e r, (e = 1 ∨ e = 2) ∧ f_X11_game x y z w (nI S) (nI P) fF fT lF lT L mems W CC C tg fo pr pm v t tr gn = some (.inl e) ∧ f_X12_game x y z w th (nI S) (nI P) fA lA 0 ln fn ML MW CM M u q = some (r, nI e, ln, fn, M, u, q)) := by
  obtain ⟨hP, hS, hlen, hF, hW, -, -⟩ := id hT
  unfold f_X11_game f_X12_game
  rcases n_person hP x with ⟨p, hp, e⟩ | ⟨e1, e2⟩
  · subst e
    rw [(n_person_t hp hP).1, (n_person_t hp hP).2, g_bx1_r, g_b2_s, if_neg n10]
    rcases n_person hP y with ⟨o, ho, e⟩ | ⟨e1, e2⟩
    · subst e
      rw [(n_person_t ho hP).1, (n_person_t ho hP).2, g_bx1_r, g_b2_s, if_neg n10]
      rcases n_song hS z with ⟨s, hs, e⟩ | ⟨e1, e2⟩
      · subst e
        have hl := hlen s hs
        rw [(n_song_t hs hS).1, (n_song_t hs hS).2, g_bx1_r, g_b2_s, if_neg n10]
        rcases n_what2 w with ⟨k, hk, e, e1, e2⟩ | ⟨e1, e2⟩
        · subst e
          rw [e1, e2, g_bx1_r, g_b2_s, if_neg n10]
          by_cases hpo : nI p = nI o
          · rw [if_pos hpo, if_pos hpo]
            unfold f_X12_game_50
            rw [n_r02, g_b2_s, if_pos rfl]
            exact Or.inr ⟨2, _, Or.inr rfl, rfl, rfl⟩
          · rw [if_neg hpo, if_neg hpo]
            unfold f_X12_game_50
            have hh1 : f_X12_doesHave 0 (nI p) (nI s) M = some (if m_H M 0 p s = true then 1 else 0) := m_has (b := 0) (by omega) (by omega) (by omega) M
            have hh2 : f_X12_doesHave 0 (nI o) (nI s) M = some (if m_H M 0 o s = true then 1 else 0) := m_has (b := 0) (by omega) (by omega) (by omega) M
            rw [n_r12, g_b2_s, if_neg n10, g_holdsB (by omega) (by omega), gs_b1_s, g_holdsB (by omega) (by omega), gs_b1_s, hh1, gs_b1_s, hh2, gs_b1_s, v_H hR hp hs, v_H hR ho hs]
            left
            by_cases c1 : m_H M 0 p s = true
            · rw [if_pos c1, if_neg n10, if_neg n10]
              by_cases c2 : m_H M 0 o s = true
              · rw [if_pos c2, if_neg n10, if_neg n10]
                -- the class plays all four
                have hc := g_run (z := fun _ _ _ _ _ _ _ => none) (b := f_X11_game_66 (nI p) (nI o) (nI s) (nI k) (nI S) (nI P) fF fT lF lT L mems W CC C pr pm (fun (v_t_course_taught' : Int32) (v_t_course_forgotten' : Int32) (r_t_course_reckoner_values' : Nat → Int32) (r_t_course_reckoner_stack' : Nat → Int32) (r_t_trial_row' : Nat → Int32) (r_t_gains' : Nat → Int32) => f_X11_game_87 (nI k) v_t_course_taught' v_t_course_forgotten' r_t_course_reckoner_values' r_t_course_reckoner_stack' r_t_trial_row' r_t_gains')) (ρ := Int32 × Int32 × Int32 × (Nat → Int32) × (Nat → Int32) × (Nat → Int32) × (Nat → Int32)) (σ := Nat × Int32 × Int32 × (Nat → Int32) × (Nat → Int32) × (Nat → Int32) × (Nat → Int32)) (fun K y => K (nI y.1) y.2.1 y.2.2.1 y.2.2.2.1 y.2.2.2.2.1 y.2.2.2.2.2.1 y.2.2.2.2.2.2) (fun y => 4 - y.1)
                  (fun y r => y.1 ≤ 4 → (∀ c, c < y.1 → y.2.2.2.2.2.2 (2 * c) = nI (g_gv P (len s) s (g_cS rF rL mem W P S len (g_dr (8 + 5 * o + s) (c % 2 == 1) (g_dr (8 + 5 * p + s) (decide (2 ≤ c)) C)) 20) p) ∧ y.2.2.2.2.2.2 (2 * c + 1) = nI (g_gv P (len s) s (g_cS rF rL mem W P S len (g_dr (8 + 5 * o + s) (c % 2 == 1) (g_dr (8 + 5 * p + s) (decide (2 ≤ c)) C)) 20) o)) → ∃ a1 a2 a3 a4 a5 a6, r = some (if nI k = 0 then (g_rs (fun c => decide ((fun x y => g_gv P (len s) s (g_cS rF rL mem W P S len (g_dr (8 + 5 * o + s) y (g_dr (8 + 5 * p + s) x C)) 20) p) (!decide (2 ≤ c)) (c % 2 == 1) ≤ (fun x y => g_gv P (len s) s (g_cS rF rL mem W P S len (g_dr (8 + 5 * o + s) y (g_dr (8 + 5 * p + s) x C)) 20) p) (decide (2 ≤ c)) (c % 2 == 1)) && decide ((fun x y => g_gv P (len s) s (g_cS rF rL mem W P S len (g_dr (8 + 5 * o + s) y (g_dr (8 + 5 * p + s) x C)) 20) o) (decide (2 ≤ c)) (!(c % 2 == 1)) ≤ (fun x y => g_gv P (len s) s (g_cS rF rL mem W P S len (g_dr (8 + 5 * o + s) y (g_dr (8 + 5 * p + s) x C)) 20) o) (decide (2 ≤ c)) (c % 2 == 1))) 4).1 else (g_rs (fun c => decide ((fun x y => g_gv P (len s) s (g_cS rF rL mem W P S len (g_dr (8 + 5 * o + s) y (g_dr (8 + 5 * p + s) x C)) 20) p) (!decide (2 ≤ c)) (c % 2 == 1) ≤ (fun x y => g_gv P (len s) s (g_cS rF rL mem W P S len (g_dr (8 + 5 * o + s) y (g_dr (8 + 5 * p + s) x C)) 20) p) (decide (2 ≤ c)) (c % 2 == 1)) && decide ((fun x y => g_gv P (len s) s (g_cS rF rL mem W P S len (g_dr (8 + 5 * o + s) y (g_dr (8 + 5 * p + s) x C)) 20) o) (decide (2 ≤ c)) (!(c % 2 == 1)) ≤ (fun x y => g_gv P (len s) s (g_cS rF rL mem W P S len (g_dr (8 + 5 * o + s) y (g_dr (8 + 5 * p + s) x C)) 20) o) (decide (2 ≤ c)) (c % 2 == 1))) 4).2, a1, a2, a3, a4, a5, a6))
                  (by
                    rintro K ⟨i, tg, fo, v, t, tr, gn⟩ ih hi hgn
                    replace hi : i ≤ 4 := hi
                    show ∃ a1 a2 a3 a4 a5 a6, f_X11_game_66 (nI p) (nI o) (nI s) (nI k) (nI S) (nI P) fF fT lF lT L mems W CC C pr pm _ K (nI i) tg fo v t tr gn = _
                    unfold f_X11_game_66
                    rcases Nat.lt_or_ge i 4 with hl2 | hl2
                    · obtain ⟨a1, a2, a3, a4, a5, e⟩ := gm_play hT hm hR hp ho hs hl2 tg fo v t tr gn
                      rw [if_neg (show ¬ (4 : Int32) ≤ nI i from nI_ge (b := 4) hl2 (by omega)), e, g_b6_s, nI_1 i]
                      refine ih (i + 1, _, _, _, _, _, _) (by show 4 - (i + 1) < 4 - i; omega) (by show i + 1 ≤ 4; omega) (fun c hc => ?_)
                      replace hc : c < i + 1 := hc
                      rcases Nat.lt_or_ge c i with h1 | h1
                      · show upd (upd gn (2 * i) _) (2 * i + 1) _ (2 * c) = _ ∧ upd (upd gn (2 * i) _) (2 * i + 1) _ (2 * c + 1) = _
                        rw [pk_un (by omega), pk_un (by omega), pk_un (by omega), pk_un (by omega)]
                        exact hgn c h1
                      · have e : c = i := by omega
                        subst e
                        show upd (upd gn (2 * c) _) (2 * c + 1) _ (2 * c) = _ ∧ upd (upd gn (2 * c) _) (2 * c + 1) _ (2 * c + 1) = _
                        rw [pk_un (by omega), pk_us, pk_us]
                        exact ⟨rfl, rfl⟩
                    · have e : i = 4 := by omega
                      subst e
                      rw [if_pos (show (4 : Int32) ≤ nI 4 from nI_le (a := 4) (Nat.le_refl _) (by omega))]
                      show ∃ a1 a2 a3 a4 a5 a6, f_X11_game_87 (nI k) tg fo v t tr gn = _
                      unfold f_X11_game_87
                      rw [gm_rest (P := P) (n := len s) (s := s) (p := p) (o := o) (G := fun _ _ _ => 0) hP hl.2.2.2 (g := fun x y => g_gv P (len s) s (g_cS rF rL mem W P S len (g_dr (8 + 5 * o + s) y (g_dr (8 + 5 * p + s) x C)) 20) p) (h := fun x y => g_gv P (len s) s (g_cS rF rL mem W P S len (g_dr (8 + 5 * o + s) y (g_dr (8 + 5 * p + s) x C)) 20) o) (fun x y => g_gv_lt _ _ _ _ _ hP hl.2.2.2) (fun x y => g_gv_lt _ _ _ _ _ hP hl.2.2.2) (fun c hc => hgn c hc) k, gs_b1_s]
                      exact ⟨_, _, _, _, _, _, rfl⟩) gs_fuel (0, tg, fo, v, t, tr, gn) (by show 4 - 0 < gs_fuel; rw [gs_fuel_eq]; omega) (Nat.zero_le _) (fun c hc => absurd hc (Nat.not_lt_zero _))
                have glt : ∀ (x y : Bool) (i : Nat), g_gv P (len s) s (g_cS rF rL mem W P S len (g_dr (8 + 5 * o + s) y (g_dr (8 + 5 * p + s) x C)) 20) i < 100 := fun x y i => g_gv_lt _ _ _ _ _ hP hl.2.2.2
                have hgp : ∀ M1 : Nat → Int32, (∀ j, j < 372 → M1 j = M j) → ∀ (x y : Bool) (ln fn : Int32) (u q : Nat → Int32), ∃ b1 b2 M' b3 b4, f_X12_gains (nI p) (nI o) (nI s) (g_w x) (g_w y) (nI S) (nI P) fA lA 0 ln fn ML MW CM M1 u q = some (nI (g_gv P (len s) s (g_cS rF rL mem W P S len (g_dr (8 + 5 * o + s) y (g_dr (8 + 5 * p + s) x C)) 20) p), b1, b2, M', b3, b4) ∧ ∀ j, j < 372 → M' j = M j := by
                  intro M1 hM1 x y ln fn u q
                  have hR1 : g_R P S D len mem C M1 0 := hR.cong hP hS (fun _ _ => rfl) (fun j hj => by rw [Nat.zero_add]; exact hM1 j hj)
                  obtain ⟨b1, b2, M', b3, b4, e, h⟩ := gm_gains hT hR1 hp ho hs x y ln fn u q
                  exact ⟨b1, b2, M', b3, b4, e, fun j hj => (h j hj).trans (hM1 j hj)⟩
                have hgo : ∀ M1 : Nat → Int32, (∀ j, j < 372 → M1 j = M j) → ∀ (x y : Bool) (ln fn : Int32) (u q : Nat → Int32), ∃ b1 b2 M' b3 b4, f_X12_gains (nI o) (nI p) (nI s) (g_w y) (g_w x) (nI S) (nI P) fA lA 0 ln fn ML MW CM M1 u q = some (nI (g_gv P (len s) s (g_cS rF rL mem W P S len (g_dr (8 + 5 * o + s) y (g_dr (8 + 5 * p + s) x C)) 20) o), b1, b2, M', b3, b4) ∧ ∀ j, j < 372 → M' j = M j := by
                  intro M1 hM1 x y ln fn u q
                  have hR1 : g_R P S D len mem C M1 0 := hR.cong hP hS (fun _ _ => rfl) (fun j hj => by rw [Nat.zero_add]; exact hM1 j hj)
                  obtain ⟨b1, b2, M', b3, b4, e, h⟩ := gm_gains hT hR1 ho hp hs y x ln fn u q
                  rw [g_dr_comm] at e
                  exact ⟨b1, b2, M', b3, b4, e, fun j hj => (h j hj).trans (hM1 j hj)⟩
                generalize hgG : (fun x y => g_gv P (len s) s (g_cS rF rL mem W P S len (g_dr (8 + 5 * o + s) y (g_dr (8 + 5 * p + s) x C)) 20) p) = G at hc
                generalize hhG : (fun x y => g_gv P (len s) s (g_cS rF rL mem W P S len (g_dr (8 + 5 * o + s) y (g_dr (8 + 5 * p + s) x C)) 20) o) = H at hc
                have G_eq : ∀ x y, g_gv P (len s) s (g_cS rF rL mem W P S len (g_dr (8 + 5 * o + s) y (g_dr (8 + 5 * p + s) x C)) 20) p = G x y := fun x y => congrFun (congrFun hgG x) y
                have H_eq : ∀ x y, g_gv P (len s) s (g_cS rF rL mem W P S len (g_dr (8 + 5 * o + s) y (g_dr (8 + 5 * p + s) x C)) 20) o = H x y := fun x y => congrFun (congrFun hhG x) y
                have Glt : ∀ x y, G x y < 100 := fun x y => by rw [← G_eq]; exact glt x y p
                have Hlt : ∀ x y, H x y < 100 := fun x y => by rw [← H_eq]; exact glt x y o
                simp only [G_eq] at hgp
                simp only [H_eq] at hgo
                clear glt hgG hhG G_eq H_eq
                generalize hok : (fun c => decide (G (!decide (2 ≤ c)) (c % 2 == 1) ≤ G (decide (2 ≤ c)) (c % 2 == 1)) && decide (H (decide (2 ≤ c)) (!(c % 2 == 1)) ≤ H (decide (2 ≤ c)) (c % 2 == 1))) = ok at hc
                have hmm := g_run (z := fun _ _ _ _ _ _ _ _ => none) (b := f_X12_game_90 (nI p) (nI o) (nI s) (nI k) 0 (nI S) (nI P) fA lA 0 ML MW CM) (ρ := Int32 × Int32 × Int32 × Int32 × (Nat → Int32) × (Nat → Int32) × (Nat → Int32)) (σ := Nat × Int32 × Int32 × (Nat → Int32) × (Nat → Int32) × (Nat → Int32)) (fun K y => K (g_rs ok y.1).1 (g_rs ok y.1).2 (nI y.1) y.2.1 y.2.2.1 y.2.2.2.1 y.2.2.2.2.1 y.2.2.2.2.2) (fun y => 4 - y.1)
                  (fun y r => y.1 ≤ 4 → (∀ j, j < 372 → y.2.2.2.1 j = M j) → ∃ b1 b2 M' b3 b4, r = some (if nI k = 0 then (g_rs ok 4).1 else (g_rs ok 4).2, 0, b1, b2, M', b3, b4) ∧ ∀ j, j < 372 → M' j = M j)
                  (by
                    rintro K ⟨i, ln, fn, M1, u, q⟩ ih hi hM1
                    replace hi : i ≤ 4 := hi
                    replace hM1 : ∀ j, j < 372 → M1 j = M j := hM1
                    show ∃ b1 b2 M' b3 b4, f_X12_game_90 (nI p) (nI o) (nI s) (nI k) 0 (nI S) (nI P) fA lA 0 ML MW CM K (g_rs ok i).1 (g_rs ok i).2 (nI i) ln fn M1 u q = _ ∧ _
                    unfold f_X12_game_90
                    rcases Nat.lt_or_ge i 4 with hl2 | hl2
                    · have tab := gm_tab i hl2
                      have okc : ok i = (decide (G (!decide (2 ≤ i)) (i % 2 == 1) ≤ G (decide (2 ≤ i)) (i % 2 == 1)) && decide (H (decide (2 ≤ i)) (!(i % 2 == 1)) ≤ H (decide (2 ≤ i)) (i % 2 == 1))) := (congrFun hok i).symm
                      have l1 := Glt (decide (2 ≤ i)) (i % 2 == 1)
                      have l2 := Glt (!decide (2 ≤ i)) (i % 2 == 1)
                      have l3 := Hlt (decide (2 ≤ i)) (i % 2 == 1)
                      have l4 := Hlt (decide (2 ≤ i)) (!(i % 2 == 1))
                      have go := fun ln fn M1 u q h => ih (i + 1, ln, fn, M1, u, q) (by show 4 - (i + 1) < 4 - i; omega) (by show i + 1 ≤ 4; omega) h
                      simp only [g_rs] at go
                      rw [if_neg (show ¬ (4 : Int32) ≤ nI i from nI_ge (b := 4) hl2 (by omega)), tab.2.2.2.2, tab.2.2.2.1, tab.2.2.1, tab.2.1, tab.1, nI_1 i]
                      obtain ⟨b1, b2, M2, b3, b4, e1, hM2⟩ := hgp M1 hM1 (!decide (2 ≤ i)) (i % 2 == 1) ln fn u q
                      rw [e1, g_b6_s]
                      obtain ⟨b5, b6, M3, b7, b8, e2, hM3⟩ := hgp M2 hM2 (decide (2 ≤ i)) (i % 2 == 1) b1 b2 b3 b4
                      rw [e2, g_b6_s]
                      by_cases c3 : G (!decide (2 ≤ i)) (i % 2 == 1) ≤ G (decide (2 ≤ i)) (i % 2 == 1)
                      · rw [if_neg (nI_nlt c3 (by omega))]
                        obtain ⟨d1, d2, M4, d3, d4, e3, hM4⟩ := hgo M3 hM3 (decide (2 ≤ i)) (!(i % 2 == 1)) b5 b6 b7 b8
                        rw [e3, g_b6_s]
                        obtain ⟨d5, d6, M5, d7, d8, e4, hM5⟩ := hgo M4 hM4 (decide (2 ≤ i)) (i % 2 == 1) d1 d2 d3 d4
                        rw [e4, g_b6_s]
                        by_cases c4 : H (decide (2 ≤ i)) (!(i % 2 == 1)) ≤ H (decide (2 ≤ i)) (i % 2 == 1)
                        · have e5 : ok i = true := by rw [okc, decide_eq_true c3, decide_eq_true c4]; rfl
                          simp only [e5, if_true] at go
                          rw [if_pos (nI_le c4 (by omega))]
                          by_cases c5 : (g_rs ok i).2 = -1
                          · simp only [if_pos c5] at go
                            rw [if_pos c5]
                            exact go _ _ _ _ _ hM5
                          · simp only [if_neg c5] at go
                            rw [if_neg c5]
                            exact go _ _ _ _ _ hM5
                        · have e5 : ok i = false := by rw [okc, decide_eq_false c4, Bool.and_false]
                          simp only [e5, Bool.false_eq_true, if_false] at go
                          rw [if_neg (nI_ge (by omega) (by omega))]
                          exact go _ _ _ _ _ hM5
                      · have e5 : ok i = false := by rw [okc, decide_eq_false c3, Bool.false_and]
                        simp only [e5, Bool.false_eq_true, if_false] at go
                        rw [if_pos (nI_lt (by omega) (by omega))]
                        exact go _ _ _ _ _ hM3
                    · have e : i = 4 := by omega
                      subst e
                      rw [if_pos (show (4 : Int32) ≤ nI 4 from nI_le (a := 4) (Nat.le_refl _) (by omega))]
                      by_cases e : nI k = 0
                      · rw [if_pos e, if_pos e]
                        exact ⟨_, _, _, _, _, rfl, hM1⟩
                      · rw [if_neg e, if_neg e]
                        exact ⟨_, _, _, _, _, rfl, hM1⟩) gs_fuel (0, ln, fn, M, u, q) (by show 4 - 0 < gs_fuel; rw [gs_fuel_eq]; omega) (Nat.zero_le _) (fun _ _ => rfl)
                obtain ⟨a1, a2, a3, a4, a5, a6, hc⟩ := hc
                obtain ⟨b1, b2, M', b3, b4, hmm, hM'⟩ := hmm
                refine ⟨(if nI k = 0 then (g_rs ok 4).1 else (g_rs ok 4).2), a1, a2, a3, a4, a5, a6, b1, b2, M', b3, b4, ?_, ?_, hM'⟩
                · have hc' : gs_it (fun _ _ _ _ _ _ _ => none) (f_X11_game_66 (nI p) (nI o) (nI s) (nI k) (nI S) (nI P) fF fT lF lT L mems W CC C pr pm (fun (v_t_course_taught' : Int32) (v_t_course_forgotten' : Int32) (r_t_course_reckoner_values' : Nat → Int32) (r_t_course_reckoner_stack' : Nat → Int32) (r_t_trial_row' : Nat → Int32) (r_t_gains' : Nat → Int32) => f_X11_game_87 (nI k) v_t_course_taught' v_t_course_forgotten' r_t_course_reckoner_values' r_t_course_reckoner_stack' r_t_trial_row' r_t_gains')) gs_fuel (nI 0) tg fo v t tr gn = _ := hc
                  rw [nI_0] at hc'
                  rw [hc']
                  rfl
                · have hm' : gs_it (fun _ _ _ _ _ _ _ _ => none) (f_X12_game_90 (nI p) (nI o) (nI s) (nI k) 0 (nI S) (nI P) fA lA 0 ML MW CM) gs_fuel 0 (-1) (nI 0) ln fn M u q = _ := hmm
                  rw [nI_0] at hm'
                  exact hm'
              · rw [if_neg c2, if_pos rfl, if_pos rfl]
                exact ⟨_, _, _, _, _, _, _, _, _, _, _, _, rfl, rfl, fun _ _ => rfl⟩
            · rw [if_neg c1, if_pos rfl, if_pos rfl]
              exact ⟨_, _, _, _, _, _, _, _, _, _, _, _, rfl, rfl, fun _ _ => rfl⟩
        · rw [e1, e2, g_bx1_l, g_b2_s, if_pos rfl]
          exact Or.inr ⟨1, _, Or.inl rfl, rfl, rfl⟩
      · rw [e1, e2, g_bx1_l, g_b2_s, if_pos rfl]
        exact Or.inr ⟨1, _, Or.inl rfl, rfl, rfl⟩
    · rw [e1, e2, g_bx1_l, g_b2_s, if_pos rfl]
      exact Or.inr ⟨1, _, Or.inl rfl, rfl, rfl⟩
  · rw [e1, e2, g_bx1_l, g_b2_s, if_pos rfl]
    exact Or.inr ⟨1, _, Or.inl rfl, rfl, rfl⟩
end GG
