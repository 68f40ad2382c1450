/-! ===== pure rows: learn, days ===== -/
section OD
variable {P S D : Nat} {len mem : Nat → Nat} {rF rL : Option (List Nat)} {C M L Fs W CC ML MF MW CM mems rf AR rfM AH : Nat → Int32} {fF fT lF lT fA lA pr pm th ol mn ac : Int32}
theorem a_canC {p s o n : Nat} (hp : p < 7) (hs : s < 5) (ho : o < 7) (hl : L s = nI n) (hn : n ≤ 8) : f_X10_canLearn (nI p) (nI s) (nI o) L C = some (if (!g_H C p s && g_rd C n o s) = true then 1 else 0) := by
  unfold f_X10_canLearn
  rw [g_holdsB hp hs, gs_b1_s]
  by_cases h : g_H C p s = true
  · rw [if_pos h, if_neg n10, if_neg (by simp [h])]
  · rw [if_neg h, if_pos rfl, g_notes ho hs, gs_b1_s, g_gapBits _ hs hl hn, gs_b1_s]
    by_cases h2 : g_rd C n o s = true
    · rw [if_neg (fun q => by rw [(g_gb0 hn).mp q] at h2; exact Bool.false_ne_true h2), if_pos (by simp [h, h2])]
    · rw [if_pos ((g_gb0 hn).mpr (Bool.eq_false_iff.mpr h2)), if_neg (by simp [h2])]
theorem a_mayM {p s o n : Nat} (hp : p < 7) (hs : s < 5) (ho : o < 7) (hl : ML s = nI n) (hn : n ≤ 8) : f_X12_mayLearn (nI p) (nI s) (nI o) ML M = some (if (!m_H M 0 p s && m_rd M 0 n o s) = true then 1 else 0) := by
  unfold f_X12_mayLearn
  have hh : f_X12_doesHave 0 (nI p) (nI s) M = some (if m_H M 0 p s = true then 1 else 0) := m_has (b := 0) (by omega) hp hs M
  have ht : f_X12_canTeach 0 (nI o) (nI s) ML M = some (if m_rd M 0 n o s = true then 1 else 0) := m_canTeach (b := 0) (by omega) ho hs hl hn
  rw [hh, gs_b1_s]
  by_cases h : m_H M 0 p s = true
  · rw [if_pos h, if_neg n10, if_neg (by simp [h])]
  · rw [if_neg h, if_pos rfl, ht, gs_b1_s]
    by_cases h2 : m_rd M 0 n o s = true
    · rw [if_pos h2, if_neg n10, if_pos (by simp [h, h2])]
    · rw [if_neg h2, if_pos rfl, if_neg (by simp [h2])]
theorem a_can_eq (hR : g_R P S D len mem C M 0) {p s o : Nat} (hp : p < P) (hs : s < S) (ho : o < P) (hn : len s ≤ 8) : (!g_H C p s && g_rd C (len s) o s) = (!m_H M 0 p s && m_rd M 0 (len s) o s) := by
  rw [v_H hR hp hs, (hR.2.1 o ho s hs).rd hn]
theorem a_can_ne {b p s o n : Nat} (h : (!m_H M b p s && m_rd M b n o s) = true) : p ≠ o := by
  intro e
  subst e
  simp [m_rd] at h
  rw [h.1] at h
  exact absurd h.2.1 (by decide)
theorem o_learn (hT : g_T P S len rF rL L Fs W CC fF fT lF lT ML MF MW CM fA lA) (hN : g_N P S len mem rf C ol mn AR ac rfM M AH) (x y z ln : Int32) (v t u q : Nat → Int32) :
    (∃ w rf' C' ol' mn' AR' a1 a2 ac' b1 rfM' M' AH' b2 b3, f_X11_learn x y z rf (nI S) (nI P) lF lT L Fs W CC C ol mn AR v t = some (.inr (w, rf', C', ol', mn', AR', a1, a2)) ∧ f_X12_learn x y z th (nI S) (nI P) lA ac ln ML MF MW CM rfM M AH u q = some (w, 0, ac', b1, rfM', M', AH', b2, b3) ∧ g_N P S len mem rf' C' ol' mn' AR' ac' rfM' M' AH') ∨
    (f_X11_learn x y z rf (nI S) (nI P) lF lT L Fs W CC C ol mn AR v t = some (.inl 1) ∧ ∃ w, f_X12_learn x y z th (nI S) (nI P) lA ac ln ML MF MW CM rfM M AH u q = some (w, 1, ac, ln, rfM, M, AH, u, q)) := by
  obtain ⟨hP, hS, hlen, hF, hW, -, hrL⟩ := id hT
  obtain ⟨hrf, hR, hA⟩ := hN
  unfold f_X11_learn f_X12_learn
  rcases n_person hP x with ⟨p, hp, e⟩ | ⟨e1, e2⟩
  · subst e
    rw [(n_person_t hp hP).1, (n_person_t hp hP).2, g_bx1_r, g_b2_s, if_neg n10]
    rcases n_song hS y with ⟨s, hs, e⟩ | ⟨e1, e2⟩
    · subst e
      have hl := hlen s hs
      rw [(n_song_t hs hS).1, (n_song_t hs hS).2, g_bx1_r, g_b2_s, if_neg n10]
      rcases n_person hP z with ⟨o, ho, e⟩ | ⟨e1, e2⟩
      · subst e
        rw [(n_person_t ho hP).1, (n_person_t ho hP).2, g_bx1_r, g_b2_s, if_neg n10, a_canC (by omega) (by omega) (by omega) hl.1 hl.2.2.2, gs_b1_s, a_mayM (by omega) (by omega) (by omega) hl.2.1 hl.2.2.2, gs_b1_s, a_can_eq hR hp hs ho hl.2.2.2]
        left
        by_cases e : (!m_H M 0 p s && m_rd M 0 (len s) o s) = true
        · obtain ⟨ol', mn', AR', ac', AH', k1, k2, hA'⟩ := a_keep hP hS hA hR
          obtain ⟨v', t', c1⟩ := l_learnt (C := C) (L := L) (W := W) (p := p) (s := s) (o := o) (by omega) (by omega) (by omega) hl.1 hl.2.2.2 hrL v t
          obtain ⟨u', q', m1⟩ := l_learns (M := M) (ML := ML) (MW := MW) (ln := ln) (b := 0) (p := p) (s := s) (o := o) (by omega) (by omega) (by omega) (by omega) (a_can_ne e) hl.2.1 hl.2.2.2 hrL u q
          have m1' : f_X12_learns 0 (nI p) (nI s) (nI o) lA ln ML MW CM M u q = some (ln + 1, g_ml rL MW (len s) M 0 p s o, u', q') := m1
          have hR' := hR.learn rL hP hS hp hs ho hl.2.2.1 hl.2.2.2 (hW p hp)
          have e8 : g_cl rL W (len s) C p s o (8 + 5 * p + s) = g_mn (g_lv rL (W p) (C 0) (g_nt (C (8 + 5 * o + s))) (len s)) (len s) := by
            unfold g_cl
            rw [pk_un (by omega), pk_us]
          have hlk := v_like hR' hp hs hl.2.2.2 (hF s hs)
          rw [e8] at hlk
          have e9 : f_X12_likeIn 0 (nI p) (nI s) ML MF (g_ml rL MW (len s) M 0 p s o) = some (nI (g_ct (fun k => g_ml rL MW (len s) M 0 p s o (0 + (1 + 40 * p + 8 * s + k)) == MF (8 * s + k)) (len s))) := m_likeIn (b := 0) (by omega) (by omega) (by omega) hl.2.1 hl.2.2.2
          rw [if_pos e, if_neg n10, if_neg n10, k1, k2, g_b3_s, g_b2_s, c1, g_b3_s, g_setLearnt (by omega) (by omega), gs_b1_s, g_likeFirst _ (by omega) hl.1 hl.2.2.2, gs_b1_s, m1', g_b4_s, e9, gs_b1_s, hlk]
          exact ⟨_, _, _, _, _, _, _, _, _, _, _, _, _, _, _, rfl, rfl, hrf, hR', hA'⟩
        · obtain ⟨a', b', r1, r2, hrf'⟩ := a_refuse hrf
          rw [if_neg e, if_pos rfl, if_pos rfl, r1, r2, g_b2_s, g_b2_s]
          exact ⟨_, _, _, _, _, _, _, _, _, _, _, _, _, _, _, rfl, rfl, hrf', hR, hA⟩
      · rw [e1, e2, g_bx1_l, g_b2_s, if_pos rfl]
        exact Or.inr ⟨rfl, _, rfl⟩
    · rw [e1, e2, g_bx1_l, g_b2_s, if_pos rfl]
      exact Or.inr ⟨rfl, _, rfl⟩
  · rw [e1, e2, g_bx1_l, g_b2_s, if_pos rfl]
    exact Or.inr ⟨rfl, _, rfl⟩
theorem g_R.le {D' b : Nat} (h : g_R P S D len mem C M b) (hd : D ≤ D') : g_R P S D' len mem C M b := by
  obtain ⟨⟨d, h1, h2⟩, h3⟩ := h
  exact ⟨⟨d, by omega, h2⟩, h3⟩
theorem o_days29 (hN : g_N P S len mem rf C ol mn AR ac rfM M AH) (tg fo ln fn : Int32) (v t u q : Nat → Int32) : ∃ rf' rfM', f_X11_days_26 rf C ol mn AR tg fo v t = some (-1, rf', C, ol, mn, AR, tg, fo, v, t) ∧ f_X12_days_29 0 ac ln fn rfM M AH u q = some (-1, 0, ac, ln, fn, rfM', M, AH, u, q) ∧ g_N P S len mem rf' C ol mn AR ac rfM' M AH := by
  obtain ⟨hrf, hR, hA⟩ := hN
  obtain ⟨a', b', r1, r2, hrf'⟩ := a_refuse hrf
  unfold f_X11_days_26 f_X12_days_29
  rw [r1, r2, g_b2_s, g_b2_s]
  exact ⟨a', b', rfl, rfl, hrf', hR, hA⟩
theorem o_days (hT : g_T P S len rF rL L Fs W CC fF fT lF lT ML MF MW CM fA lA) (hm : ∀ p, p < P → f_X1_memoryOf (nI p) pr pm mems = some (nI (mem p))) (hN : g_N P S len mem rf C ol mn AR ac rfM M AH) (x tg fo ln fn : Int32) (v t u q : Nat → Int32) :
    ∃ w rf' C' ol' mn' AR' a1 a2 a3 a4 ac' b1 b2 rfM' M' AH' b3 b4, f_X11_days x rf (nI S) (nI P) fF fT lF lT L mems W CC C ol mn AR tg fo pr pm v t = some (w, rf', C', ol', mn', AR', a1, a2, a3, a4) ∧ f_X12_days x th (nI S) (nI P) fA lA ac 0 ln fn ML MW CM rfM M AH u q = some (w, 0, ac', b1, b2, rfM', M', AH', b3, b4) ∧ g_N P S len mem rf' C' ol' mn' AR' ac' rfM' M' AH' := by
  obtain ⟨hP, hS, hlen, hF, hW, -, -⟩ := id hT
  obtain ⟨rf', rfM', j1, j2, hN'⟩ := o_days29 hN tg fo ln fn v t u q
  have no : ∃ w rf' C' ol' mn' AR' a1 a2 a3 a4 ac' b1 b2 rfM' M' AH' b3 b4, f_X11_days_26 rf C ol mn AR tg fo v t = some (w, rf', C', ol', mn', AR', a1, a2, a3, a4) ∧ f_X12_days_29 0 ac ln fn rfM M AH u q = some (w, 0, ac', b1, b2, rfM', M', AH', b3, b4) ∧ g_N P S len mem rf' C' ol' mn' AR' ac' rfM' M' AH' := ⟨_, _, _, _, _, _, _, _, _, _, _, _, _, _, _, _, _, _, j1, j2, hN'⟩
  obtain ⟨hrf, hR, hA⟩ := hN
  unfold f_X11_days f_X12_days f_X12_within
  by_cases h1 : x < 1
  · rw [if_pos h1, if_pos h1, gs_b1_s, if_pos rfl]
    exact no
  · rw [if_neg h1, if_neg h1]
    by_cases h2 : (20 : Int32) < x
    · rw [if_pos h2, if_pos h2, gs_b1_s, if_pos rfl]
      exact no
    · rw [if_neg h2, if_neg h2, gs_b1_s, if_neg n10, g_day, gs_b1_s, gs_gd_t (by decide), tc0]
      obtain ⟨n, hn, e⟩ : ∃ n, n ≤ 20 ∧ x = nI n := by
        refine nI_of2 (M := 20) rfl (fun q => h1 ?_) (n_le h2)
        rw [Int32.lt_iff_toInt_lt] at q ⊢
        have a1 : (0 : Int32).toInt = 0 := rfl
        have a2 : (1 : Int32).toInt = 1 := rfl
        omega
      subst e
      obtain ⟨⟨d, hd, d1, d2⟩, hrest⟩ := id hR
      have hR0 : g_R P S d len mem C M 0 := ⟨⟨d, Nat.le_refl _, d1, d2⟩, hrest⟩
      rw [d1, d2, nI_add]
      by_cases h3 : d + n ≤ 9999
      · rw [if_pos (show nI (d + n) ≤ 9999 from nI_le (b := 9999) h3 (by omega)), if_pos (show nI (d + n) ≤ 9999 from nI_le (b := 9999) h3 (by omega))]
        obtain ⟨ol', mn', AR', ac', AH', k1, k2, hA'⟩ := a_keep hP hS hA hR
        rw [k1, k2, g_b3_s, g_b2_s]
        obtain ⟨hr, -⟩ := s_R hT hR0 n
        have hr' : g_R P S 9999 len mem (g_cS rF rL mem W P S len C n) (m_S rF rL MW P S len 0 M n) 0 := hr.le h3
        obtain ⟨⟨dn, -, dn1, dn2⟩, -⟩ := id hr'
        have hc := g_run (z := fun _ _ _ _ _ _ => none) (b := f_X11_days_44 (nI n) rf (nI S) (nI P) fF fT lF lT L mems W CC ol' mn' AR' pr pm (fun (r_t_now_row' : Nat → Int32) (v_t_course_taught' : Int32) (v_t_course_forgotten' : Int32) (r_t_course_reckoner_values' : Nat → Int32) (r_t_course_reckoner_stack' : Nat → Int32) => f_X11_days_67 rf r_t_now_row' ol' mn' AR' v_t_course_taught' v_t_course_forgotten' r_t_course_reckoner_values' r_t_course_reckoner_stack')) (ρ := Int32 × (Nat → Int32) × (Nat → Int32) × Int32 × Int32 × (Nat → Int32) × Int32 × Int32 × (Nat → Int32) × (Nat → Int32)) (σ := Nat × Int32 × Int32 × (Nat → Int32) × (Nat → Int32)) (fun K y => K (nI y.1) (g_cS rF rL mem W P S len C y.1) y.2.1 y.2.2.1 y.2.2.2.1 y.2.2.2.2) (fun y => n - y.1)
          (fun y r => y.1 ≤ n → ∃ a1 a2 a3 a4, r = some (nI dn, rf, g_cS rF rL mem W P S len C n, ol', mn', AR', a1, a2, a3, a4))
          (by
            rintro K ⟨i, tg, fo, v, t⟩ ih hi
            replace hi : i ≤ n := hi
            show ∃ a1 a2 a3 a4, f_X11_days_44 (nI n) rf (nI S) (nI P) fF fT lF lT L mems W CC ol' mn' AR' pr pm _ K (nI i) (g_cS rF rL mem W P S len C i) tg fo v t = some (nI dn, rf, g_cS rF rL mem W P S len C n, ol', mn', AR', a1, a2, a3, a4)
            unfold f_X11_days_44
            rcases Nat.lt_or_ge i n with hl2 | hl2
            · obtain ⟨v1, t1, e⟩ := s_C hT hm hR0 i tg fo v t
              rw [if_neg (nI_ge hl2 (by omega)), e, g_b5_s, nI_1 i]
              exact ih (i + 1, _, _, v1, t1) (by show n - (i + 1) < n - i; omega) (by show i + 1 ≤ n; omega)
            · have e : i = n := by omega
              subst e
              rw [if_pos (nI_le (Nat.le_refl _) (by omega))]
              show ∃ a1 a2 a3 a4, f_X11_days_67 rf (g_cS rF rL mem W P S len C i) ol' mn' AR' tg fo v t = _
              unfold f_X11_days_67
              rw [g_day, gs_b1_s, dn1]
              exact ⟨_, _, _, _, rfl⟩) gs_fuel (0, tg, fo, v, t) (by show n - 0 < gs_fuel; rw [gs_fuel_eq]; omega) (Nat.zero_le _)
        have hmm := g_run (z := fun _ _ _ _ _ _ => none) (b := f_X12_days_41 (nI n) 0 (nI S) (nI P) fA lA ac' 0 ML MW CM rfM AH') (ρ := Int32 × Int32 × Int32 × Int32 × Int32 × (Nat → Int32) × (Nat → Int32) × (Nat → Int32) × (Nat → Int32) × (Nat → Int32)) (σ := Nat × Int32 × Int32 × (Nat → Int32) × (Nat → Int32)) (fun K y => K (nI y.1) y.2.1 y.2.2.1 (m_S rF rL MW P S len 0 M y.1) y.2.2.2.1 y.2.2.2.2) (fun y => n - y.1)
          (fun y r => y.1 ≤ n → ∃ b1 b2 b3 b4, r = some (nI dn, 0, ac', b1, b2, rfM, m_S rF rL MW P S len 0 M n, AH', b3, b4))
          (by
            rintro K ⟨i, ln, fn, u, q⟩ ih hi
            replace hi : i ≤ n := hi
            show ∃ b1 b2 b3 b4, f_X12_days_41 (nI n) 0 (nI S) (nI P) fA lA ac' 0 ML MW CM rfM AH' K (nI i) ln fn (m_S rF rL MW P S len 0 M i) u q = some (nI dn, 0, ac', b1, b2, rfM, m_S rF rL MW P S len 0 M n, AH', b3, b4)
            unfold f_X12_days_41
            rcases Nat.lt_or_ge i n with hl2 | hl2
            · obtain ⟨u1, q1, e⟩ := s_M hT (Nat.zero_le 372) hR0 i ln fn u q
              rw [if_neg (nI_ge hl2 (by omega)), show f_X12_dayGoes 0 (nI S) (nI P) fA lA 0 ln fn ML MW CM (m_S rF rL MW P S len 0 M i) u q = _ from e, g_b5_s, nI_1 i]
              exact ih (i + 1, _, _, u1, q1) (by show n - (i + 1) < n - i; omega) (by show i + 1 ≤ n; omega)
            · have e : i = n := by omega
              subst e
              rw [if_pos (nI_le (Nat.le_refl _) (by omega)), gs_gd_t (by decide), tc0, dn2]
              exact ⟨_, _, _, _, rfl⟩) gs_fuel (0, ln, fn, u, q) (by show n - 0 < gs_fuel; rw [gs_fuel_eq]; omega) (Nat.zero_le _)
        obtain ⟨a1, a2, a3, a4, hc⟩ := hc
        obtain ⟨b1, b2, b3, b4, hmm⟩ := hmm
        have hc' : gs_it (fun _ _ _ _ _ _ => none) (f_X11_days_44 (nI n) rf (nI S) (nI P) fF fT lF lT L mems W CC ol' mn' AR' pr pm (fun (r_t_now_row' : Nat → Int32) (v_t_course_taught' : Int32) (v_t_course_forgotten' : Int32) (r_t_course_reckoner_values' : Nat → Int32) (r_t_course_reckoner_stack' : Nat → Int32) => f_X11_days_67 rf r_t_now_row' ol' mn' AR' v_t_course_taught' v_t_course_forgotten' r_t_course_reckoner_values' r_t_course_reckoner_stack')) gs_fuel (nI 0) C tg fo v t = _ := hc
        have hm' : gs_it (fun _ _ _ _ _ _ => none) (f_X12_days_41 (nI n) 0 (nI S) (nI P) fA lA ac' 0 ML MW CM rfM AH') gs_fuel (nI 0) ln fn M u q = _ := hmm
        rw [nI_0] at hc' hm'
        rw [hc', hm']
        exact ⟨_, _, _, _, _, _, _, _, _, _, _, _, _, _, _, _, _, _, rfl, rfl, hrf, hr', hA'⟩
      · rw [if_neg (show ¬ nI (d + n) ≤ 9999 from nI_ge (a := 9999) (by omega) (by omega)), if_neg (show ¬ nI (d + n) ≤ 9999 from nI_ge (a := 9999) (by omega) (by omega))]
        exact no
end OD
