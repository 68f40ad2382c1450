/-! ===== pure rows: toLearn ===== -/
theorem g_b6_s {α α2 α3 α4 α5 α6 β : Type} {a : α} {a2 : α2} {a3 : α3} {a4 : α4} {a5 : α5} {a6 : α6} {k : α → α2 → α3 → α4 → α5 → α6 → Option β} : gs_b6 (some (a, a2, a3, a4, a5, a6)) k = k a a2 a3 a4 a5 a6 := rfl
theorem g_b7_s {α α2 α3 α4 α5 α6 α7 β : Type} {a : α} {a2 : α2} {a3 : α3} {a4 : α4} {a5 : α5} {a6 : α6} {a7 : α7} {k : α → α2 → α3 → α4 → α5 → α6 → α7 → Option β} : gs_b7 (some (a, a2, a3, a4, a5, a6, a7)) k = k a a2 a3 a4 a5 a6 a7 := rfl
def g_lk (rL : Option (List Nat)) (W : Nat → Int32) (n : Nat) (C Fs : Nat → Int32) (p s o : Nat) : Nat := g_ct (fun k => g_nt (g_mn (g_lv rL (W p) (C 0) (g_nt (C (8 + 5 * o + s))) n) n) k == g_nt (Fs s) k) n
def g_tl (can : Nat → Bool) (lk : Nat → Nat) : Nat → Int32 × Int32
  | 0 => (-1, -1)
  | i + 1 => if can i = true then (if nI (lk i) ≤ (g_tl can lk i).2 then g_tl can lk i else (nI i, nI (lk i))) else g_tl can lk i
section TL
variable {P S D : Nat} {len mem : Nat → Nat} {rF rL : Option (List Nat)} {C M L Fs W CC ML MF MW CM mems : Nat → Int32} {fF fT lF lT fA lA pr pm th : Int32}
theorem q_likeC (hT : g_T P S len rF rL L Fs W CC fF fT lF lT ML MF MW CM fA lA) {p s o : Nat} (hp : p < P) (hs : s < S) (ho : o < P) (v t : Nat → Int32) : ∃ v' t', f_X11_likeIfLearnt (nI p) (nI s) (nI o) lF lT L Fs W CC C v t = some (nI (g_lk rL W (len s) C Fs p s o), v', t') := by
  obtain ⟨hP, hS, hlen, hF, hW, -, hrL⟩ := id hT
  have hl := hlen s hs
  obtain ⟨v', t', c1⟩ := l_learnt (C := C) (L := L) (W := W) (p := p) (s := s) (o := o) (by omega) (by omega) (by omega) hl.1 hl.2.2.2 hrL v t
  unfold f_X11_likeIfLearnt
  rw [c1, g_b3_s, g_likeFirst _ (by omega) hl.1 hl.2.2.2, gs_b1_s]
  exact ⟨_, _, rfl⟩
theorem q_likeM (hT : g_T P S len rF rL L Fs W CC fF fT lF lT ML MF MW CM fA lA) (hR : g_R P S D len mem C M 0) {p s o : Nat} (hp : p < P) (hs : s < S) (ho : o < P) (hpo : p ≠ o) (ln : Int32) (u q : Nat → Int32) : ∃ l' M' u' q', f_X12_likeOf (nI p) (nI s) (nI o) lA ln ML MF MW CM M u q = some (nI (g_lk rL W (len s) C Fs p s o), l', M', u', q') ∧ ∀ j, j < 372 → M' j = M j := by
  obtain ⟨hP, hS, hlen, hF, hW, -, hrL⟩ := id hT
  have hl := hlen s hs
  have h0 := hR.tries (tr := C) hP hS
  have e0 : g_cpy C C 0 78 = C := by
    funext j
    unfold g_cpy
    split
    · rw [Nat.sub_zero]
    · rfl
  rw [e0] at h0
  unfold f_X12_likeOf
  obtain ⟨u', q', m1⟩ := l_learns (M := g_cpy M M 372 372) (ML := ML) (MW := MW) (ln := ln) (b := 372) (p := p) (s := s) (o := o) (by omega) (by omega) (by omega) (by omega) hpo hl.2.1 hl.2.2.2 hrL u q
  have m1' : f_X12_learns 372 (nI p) (nI s) (nI o) lA ln ML MW CM (g_cpy M M 372 372) u q = some (ln + 1, g_ml rL MW (len s) (g_cpy M M 372 372) 372 p s o, u', q') := m1
  have hR' := h0.learn rL hP hS hp hs ho hl.2.2.1 hl.2.2.2 (hW p hp)
  have e8 : g_cl rL W (len s) C p s o (8 + 5 * p + s) = g_mn (g_lv rL (W p) (C 0) (g_nt (C (8 + 5 * o + s))) (len s)) (len s) := by
    unfold g_cl
    rw [pk_un (by omega), pk_us]
  have hlk := v_like hR' hp hs hl.2.2.2 (hF s hs)
  rw [e8] at hlk
  have e9 : f_X12_likeIn 372 (nI p) (nI s) ML MF (g_ml rL MW (len s) (g_cpy M M 372 372) 372 p s o) = some (nI (g_ct (fun k => g_ml rL MW (len s) (g_cpy M M 372 372) 372 p s o (372 + (1 + 40 * p + 8 * s + k)) == MF (8 * s + k)) (len s))) := m_likeIn (b := 372) (by omega) (by omega) (by omega) hl.2.1 hl.2.2.2
  rw [m_tries, gs_b1_s, m1', g_b4_s, e9, gs_b1_s, ← hlk]
  refine ⟨_, _, _, _, rfl, fun j hj => ?_⟩
  rw [g_ml_out hl.2.2.2 (by omega) (by omega) (by omega), g_tries_lo hj]
theorem o_toLearn (hT : g_T P S len rF rL L Fs W CC fF fT lF lT ML MF MW CM fA lA) (hR : g_R P S D len mem C M 0) (x y z ln : Int32) (v t u q : Nat → Int32) :
    (∃ w a1 a2 b1 M' b2 b3, f_X11_toLearn x y z (nI S) (nI P) lF lT L Fs W CC C v t = some (.inr (w, a1, a2)) ∧ f_X12_toLearn x y z th (nI S) (nI P) lA ln ML MF MW CM M u q = some (w, 0, b1, M', b2, b3) ∧ ∀ j, j < 372 → M' j = M j) ∨
    (f_X11_toLearn x y z (nI S) (nI P) lF lT L Fs W CC C v t = some (.inl 1) ∧ ∃ w, f_X12_toLearn x y z th (nI S) (nI P) lA ln ML MF MW CM M u q = some (w, 1, ln, M, u, q)) := by
  obtain ⟨hP, hS, hlen, hF, hW, -, hrL⟩ := id hT
  unfold f_X11_toLearn f_X12_toLearn
  rcases n_person hP x with ⟨p, hp, e⟩ | ⟨e1, e2⟩
  · subst e
    rw [(n_person_t hp hP).1, (n_person_t hp hP).2, g_bx1_r, g_b2_s, if_neg n10]
    rcases n_song hS y with ⟨s, hs, e⟩ | ⟨e1, e2⟩
    · subst e
      have hl := hlen s hs
      rw [(n_song_t hs hS).1, (n_song_t hs hS).2, g_bx1_r, g_b2_s, if_neg n10]
      rcases n_what2 z with ⟨k, hk, e, e1, e2⟩ | ⟨e1, e2⟩
      · subst e
        rw [e1, e2, g_bx1_r, g_b2_s, if_neg n10]
        left
        have hcan : ∀ o, o < P → (!g_H C p s && g_rd C (len s) o s) = (!m_H M 0 p s && m_rd M 0 (len s) o s) := fun o ho => a_can_eq hR hp hs ho hl.2.2.2
        generalize hcd : (fun o => !g_H C p s && g_rd C (len s) o s) = can at *
        have hcd' : ∀ o, (!g_H C p s && g_rd C (len s) o s) = can o := fun o => congrFun hcd o
        have hc := g_run (z := fun _ _ _ _ _ => none) (b := f_X11_toLearn_24 (nI p) (nI s) (nI k) (nI P) lF lT L Fs W CC C) (ρ := Int32 × (Nat → Int32) × (Nat → Int32)) (σ := Nat × (Nat → Int32) × (Nat → Int32)) (fun K y => K (g_tl can (g_lk rL W (len s) C Fs p s) y.1).1 (g_tl can (g_lk rL W (len s) C Fs p s) y.1).2 (nI y.1) y.2.1 y.2.2) (fun y => P - y.1)
          (fun y r => y.1 ≤ P → ∃ a1 a2, r = some (if nI k = 0 then (g_tl can (g_lk rL W (len s) C Fs p s) P).1 else (g_tl can (g_lk rL W (len s) C Fs p s) P).2, a1, a2))
          (by
            rintro K ⟨i, v, t⟩ ih hi
            replace hi : i ≤ P := hi
            show ∃ a1 a2, f_X11_toLearn_24 (nI p) (nI s) (nI k) (nI P) lF lT L Fs W CC C K (g_tl can (g_lk rL W (len s) C Fs p s) i).1 (g_tl can (g_lk rL W (len s) C Fs p s) i).2 (nI i) v t = _
            unfold f_X11_toLearn_24
            rcases Nat.lt_or_ge i P with hl2 | hl2
            · have go := fun v t => ih (i + 1, v, t) (by show P - (i + 1) < P - i; omega) (by show i + 1 ≤ P; omega)
              simp only [g_tl] at go
              rw [if_neg (nI_ge hl2 (by omega)), a_canC (by omega) (by omega) (by omega) hl.1 hl.2.2.2, gs_b1_s, hcd', nI_1 i]
              by_cases e : can i = true
              · obtain ⟨v', t', c1⟩ := q_likeC (C := C) hT hp hs hl2 v t
                simp only [if_pos e] at go
                rw [if_pos e, if_neg n10, c1, g_b3_s]
                by_cases e2 : nI (g_lk rL W (len s) C Fs p s i) ≤ (g_tl can (g_lk rL W (len s) C Fs p s) i).2
                · simp only [if_pos e2] at go
                  rw [if_pos e2]
                  exact go v' t'
                · simp only [if_neg e2] at go
                  rw [if_neg e2]
                  exact go v' t'
              · simp only [if_neg e] at go
                rw [if_neg e, if_pos rfl]
                exact go v t
            · have e : i = P := by omega
              subst e
              rw [if_pos (nI_le (Nat.le_refl _) (by omega))]
              by_cases e : nI k = 0
              · rw [if_pos e, if_pos e]
                exact ⟨_, _, rfl⟩
              · rw [if_neg e, if_neg e]
                exact ⟨_, _, rfl⟩) gs_fuel (0, v, t) (by show P - 0 < gs_fuel; rw [gs_fuel_eq]; omega) (Nat.zero_le _)
        have hmm := g_run (z := fun _ _ _ _ _ _ _ => none) (b := f_X12_toLearn_41 (nI p) (nI s) (nI k) 0 (nI P) lA ML MF MW CM) (ρ := Int32 × Int32 × Int32 × (Nat → Int32) × (Nat → Int32) × (Nat → Int32)) (σ := Nat × Int32 × (Nat → Int32) × (Nat → Int32) × (Nat → Int32)) (fun K y => K (g_tl can (g_lk rL W (len s) C Fs p s) y.1).1 (g_tl can (g_lk rL W (len s) C Fs p s) y.1).2 (nI y.1) y.2.1 y.2.2.1 y.2.2.2.1 y.2.2.2.2) (fun y => P - y.1)
          (fun y r => y.1 ≤ P → (∀ j, j < 372 → y.2.2.1 j = M j) → ∃ b1 M' b2 b3, r = some (if nI k = 0 then (g_tl can (g_lk rL W (len s) C Fs p s) P).1 else (g_tl can (g_lk rL W (len s) C Fs p s) P).2, 0, b1, M', b2, b3) ∧ ∀ j, j < 372 → M' j = M j)
          (by
            rintro K ⟨i, ln, M1, u, q⟩ ih hi hM1
            replace hi : i ≤ P := hi
            replace hM1 : ∀ j, j < 372 → M1 j = M j := hM1
            show ∃ b1 M' b2 b3, f_X12_toLearn_41 (nI p) (nI s) (nI k) 0 (nI P) lA ML MF MW CM K (g_tl can (g_lk rL W (len s) C Fs p s) i).1 (g_tl can (g_lk rL W (len s) C Fs p s) i).2 (nI i) ln M1 u q = _ ∧ _
            have hR1 : g_R P S D len mem C M1 0 := hR.cong hP hS (fun _ _ => rfl) (fun j hj => by rw [Nat.zero_add]; exact hM1 j hj)
            unfold f_X12_toLearn_41
            rcases Nat.lt_or_ge i P with hl2 | hl2
            · have go := fun ln M1 u q h => ih (i + 1, ln, M1, u, q) (by show P - (i + 1) < P - i; omega) (by show i + 1 ≤ P; omega) h
              simp only [g_tl] at go
              rw [if_neg (nI_ge hl2 (by omega)), a_mayM (by omega) (by omega) (by omega) hl.2.1 hl.2.2.2, gs_b1_s, ← a_can_eq hR1 hp hs hl2 hl.2.2.2, hcd', nI_1 i]
              by_cases e : can i = true
              · have hpo : p ≠ i := by
                  have := hcd' i
                  rw [a_can_eq hR1 hp hs hl2 hl.2.2.2, e] at this
                  exact a_can_ne this
                obtain ⟨l', M', u', q', m1, hM'⟩ := q_likeM hT hR1 hp hs hl2 hpo ln u q
                simp only [if_pos e] at go
                rw [if_pos e, if_neg n10, m1, g_b5_s]
                by_cases e2 : nI (g_lk rL W (len s) C Fs p s i) ≤ (g_tl can (g_lk rL W (len s) C Fs p s) i).2
                · simp only [if_pos e2] at go
                  rw [if_neg (n_nlt e2)]
                  exact go l' M' u' q' (fun j hj => (hM' j hj).trans (hM1 j hj))
                · simp only [if_neg e2] at go
                  have hR2 : g_R P S D len mem C M' 0 := hR1.cong hP hS (fun _ _ => rfl) (fun j hj => by rw [Nat.zero_add]; exact hM' j hj)
                  obtain ⟨l2, M2, u2, q2, m2, hM2⟩ := q_likeM hT hR2 hp hs hl2 hpo l' u' q'
                  rw [if_pos (n_lt e2), m2, g_b5_s]
                  exact go l2 M2 u2 q2 (fun j hj => (hM2 j hj).trans ((hM' j hj).trans (hM1 j hj)))
              · simp only [if_neg e] at go
                rw [if_neg e, if_pos rfl]
                exact go ln M1 u q hM1
            · have e : i = P := by omega
              subst e
              rw [if_pos (nI_le (Nat.le_refl _) (by omega))]
              by_cases e : nI k = 0
              · rw [if_pos e, if_pos e]
                exact ⟨_, _, _, _, rfl, hM1⟩
              · rw [if_neg e, if_neg e]
                exact ⟨_, _, _, _, rfl, hM1⟩) gs_fuel (0, ln, M, u, q) (by show P - 0 < gs_fuel; rw [gs_fuel_eq]; omega) (Nat.zero_le _) (fun _ _ => rfl)
        obtain ⟨a1, a2, hc⟩ := hc
        obtain ⟨b1, M', b2, b3, hmm, hM'⟩ := hmm
        have hc' : gs_it (fun _ _ _ _ _ => none) (f_X11_toLearn_24 (nI p) (nI s) (nI k) (nI P) lF lT L Fs W CC C) gs_fuel (-1) (-1) (nI 0) v t = _ := hc
        have hm' : gs_it (fun _ _ _ _ _ _ _ => none) (f_X12_toLearn_41 (nI p) (nI s) (nI k) 0 (nI P) lA ML MF MW CM) gs_fuel (-1) (-1) (nI 0) ln M u q = _ := hmm
        rw [nI_0] at hc' hm'
        rw [hc', hm']
        exact ⟨_, _, _, _, _, _, _, rfl, rfl, hM'⟩
      · rw [e1, e2, g_bx1_l, g_b2_s, if_pos rfl]
        exact Or.inr ⟨rfl, _, rfl⟩
    · rw [e1, e2, g_bx1_l, g_b2_s, if_pos rfl]
      exact Or.inr ⟨rfl, _, rfl⟩
  · rw [e1, e2, g_bx1_l, g_b2_s, if_pos rfl]
    exact Or.inr ⟨rfl, _, rfl⟩
end TL
