/-! ===== pure rows: lessons, lesson ===== -/
section LES2
variable {P S D : Nat} {len mem : Nat → Nat} {rF rL : Option (List Nat)} {C M L Fs W CC ML MF MW CM mems : Nat → Int32} {fF fT lF lT fA lA pr pm th : Int32}
theorem l_laysM (hT : g_T P S len rF rL L Fs W CC fF fT lF lT ML MF MW CM fA lA) (hR : g_R P S D len mem C M 0) {s : Nat} (hs : s < S) (ln : Int32) (u q mo lks : Nat → Int32) :
    ∃ ln' M' u' q' mo' lks', f_X12_laysLessons (nI s) (nI P) lA ln ML MF MW CM M u q mo lks = some (ln', M', u', q', mo', lks') ∧ (∀ j, j < 372 → M' j = M j) ∧ (∀ p, p ≤ P → ∀ x, x < 2 ^ P → mo' (128 * p + x) = nI (l_mo P (fun p o => !g_H C p s && g_rd C (len s) o s) (fun p o => g_lk rL W (len s) C Fs p s o) (P - p) p x)) ∧ ∀ p, p < P → ∀ t, t < P → lks' (7 * p + t) = l_sp (fun p o => !g_H C p s && g_rd C (len s) o s) (fun p o => g_lk rL W (len s) C Fs p s o) p t := by
  obtain ⟨hP, hS, hlen, hF, hW, -, hrL⟩ := id hT
  have hl := hlen s hs
  have h8' : ∀ p o, g_lk rL W (len s) C Fs p s o ≤ 8 := fun p o => by
    unfold g_lk
    have := g_ct_le (fun k => g_nt (g_mn (g_lv rL (W p) (C 0) (g_nt (C (8 + 5 * o + s))) (len s)) (len s)) k == g_nt (Fs s) k) (len s)
    omega
  generalize hcd : (fun p o => !g_H C p s && g_rd C (len s) o s) = can
  have hcd' : ∀ p o, (!g_H C p s && g_rd C (len s) o s) = can p o := fun p o => congrFun (congrFun hcd p) o
  generalize hld : (fun p o => g_lk rL W (len s) C Fs p s o) = lk
  have hld' : ∀ p o, g_lk rL W (len s) C Fs p s o = lk p o := fun p o => congrFun (congrFun hld p) o
  have h8 : ∀ p t, lk p t ≤ 8 := fun p t => by rw [← hld']; exact h8' p t
  unfold f_X12_laysLessons
  have hr := g_run (z := fun _ _ _ _ _ _ => none) (b := f_X12_laysLessons_2 (nI s) (nI P) lA ML MF MW CM mo (fun (v_t_learntNow' : Int32) (r_t_rows' : Nat → Int32) (r_t_told' : Nat → Int32) (r_t_pile' : Nat → Int32) (r_t_likes' : Nat → Int32) => f_X12_laysLessons_64 (nI P) v_t_learntNow' r_t_rows' r_t_told' r_t_pile' mo r_t_likes')) (ρ := Int32 × (Nat → Int32) × (Nat → Int32) × (Nat → Int32) × (Nat → Int32) × (Nat → Int32)) (σ := Nat × Int32 × (Nat → Int32) × (Nat → Int32) × (Nat → Int32) × (Nat → Int32)) (fun K y => K (nI y.1) y.2.1 y.2.2.1 y.2.2.2.1 y.2.2.2.2.1 y.2.2.2.2.2) (fun y => P - y.1)
    (fun y o => y.1 ≤ P → (∀ j, j < 372 → y.2.2.1 j = M j) → (∀ p, p < y.1 → ∀ i, i < P → y.2.2.2.2.2 (7 * p + i) = l_sp can lk p i) → ∃ ln' M' u' q' mo' lks', o = some (ln', M', u', q', mo', lks') ∧ (∀ j, j < 372 → M' j = M j) ∧ (∀ p, p ≤ P → ∀ x, x < 2 ^ P → mo' (128 * p + x) = nI (l_mo P can lk (P - p) p x)) ∧ ∀ p, p < P → ∀ t, t < P → lks' (7 * p + t) = l_sp can lk p t)
    (by
      rintro K ⟨p, ln, M1, u, q, lks⟩ ih hp hM1 hk
      replace hp : p ≤ P := hp
      replace hM1 : ∀ j, j < 372 → M1 j = M j := hM1
      replace hk : ∀ p', p' < p → ∀ i, i < P → lks (7 * p' + i) = l_sp can lk p' i := hk
      show ∃ ln' M' u' q' mo' lks', f_X12_laysLessons_2 (nI s) (nI P) lA ML MF MW CM mo _ K (nI p) ln M1 u q lks = _ ∧ _
      unfold f_X12_laysLessons_2
      rcases Nat.lt_or_ge p P with hl2 | hl2
      · rw [if_neg (nI_ge hl2 (by omega))]
        have hin := g_run (z := fun _ _ _ _ _ _ => none) (b := f_X12_laysLessons_12 (nI s) (nI p) (nI P) lA ML MF MW CM mo (fun (v_t_learntNow' : Int32) (r_t_rows' : Nat → Int32) (r_t_told' : Nat → Int32) (r_t_pile' : Nat → Int32) (r_t_likes' : Nat → Int32) => f_X12_laysLessons_58 (fun (x2' : Int32) (v_t_learntNow' : Int32) (r_t_rows' : Nat → Int32) (r_t_told' : Nat → Int32) (r_t_pile' : Nat → Int32) (r_t_likes' : Nat → Int32) => K x2' v_t_learntNow' r_t_rows' r_t_told' r_t_pile' r_t_likes') (nI s) (nI p) (nI P) lA v_t_learntNow' ML MF MW CM r_t_rows' r_t_told' r_t_pile' mo r_t_likes')) (ρ := Int32 × (Nat → Int32) × (Nat → Int32) × (Nat → Int32) × (Nat → Int32) × (Nat → Int32)) (σ := Nat × Int32 × (Nat → Int32) × (Nat → Int32) × (Nat → Int32) × (Nat → Int32)) (fun K y => K (nI y.1) y.2.1 y.2.2.1 y.2.2.2.1 y.2.2.2.2.1 y.2.2.2.2.2) (fun y => P - y.1)
          (fun y o => y.1 ≤ P → (∀ j, j < 372 → y.2.2.1 j = M j) → (∀ p', ∀ i, i < P → (p' < p ∨ (p' = p ∧ i < y.1)) → y.2.2.2.2.2 (7 * p' + i) = l_sp can lk p' i) → ∃ ln' M' u' q' mo' lks', o = some (ln', M', u', q', mo', lks') ∧ (∀ j, j < 372 → M' j = M j) ∧ (∀ p, p ≤ P → ∀ x, x < 2 ^ P → mo' (128 * p + x) = nI (l_mo P can lk (P - p) p x)) ∧ ∀ p, p < P → ∀ t, t < P → lks' (7 * p + t) = l_sp can lk p t)
          (by
            rintro K2 ⟨i, ln, M1, u, q, lks⟩ ih2 hi hM1 hk
            replace hi : i ≤ P := hi
            replace hM1 : ∀ j, j < 372 → M1 j = M j := hM1
            replace hk : ∀ p', ∀ j, j < P → (p' < p ∨ (p' = p ∧ j < i)) → lks (7 * p' + j) = l_sp can lk p' j := hk
            show ∃ ln' M' u' q' mo' lks', f_X12_laysLessons_12 (nI s) (nI p) (nI P) lA ML MF MW CM mo _ K2 (nI i) ln M1 u q lks = _ ∧ _
            have hR1 : g_R P S D len mem C M1 0 := hR.cong hP hS (fun _ _ => rfl) (fun j hj => by rw [Nat.zero_add]; exact hM1 j hj)
            unfold f_X12_laysLessons_12
            rcases Nat.lt_or_ge i P with hi2 | hi2
            · have go := fun ln M1 u q lks h1 h2 => ih2 (i + 1, ln, M1, u, q, lks) (by show P - (i + 1) < P - i; omega) (by show i + 1 ≤ P; omega) h1 h2
              have hset : ∀ x : Int32, x = l_sp can lk p i → ∀ p', ∀ j, j < P → (p' < p ∨ (p' = p ∧ j < i + 1)) → upd lks (7 * p + i) x (7 * p' + j) = l_sp can lk p' j := by
                intro x hx p' j hj hc
                by_cases ee : p' = p ∧ j = i
                · rw [ee.1, ee.2, pk_us, hx]
                · rw [pk_un (by omega)]
                  exact hk p' j hj (by omega)
              rw [if_neg (nI_ge hi2 (by omega)), a_mayM (by omega) (by omega) (by omega) hl.2.1 hl.2.2.2, gs_b1_s, ← a_can_eq hR1 hl2 hs hi2 hl.2.2.2, hcd', nI_1 i, l_ix]
              by_cases e : can p i = true
              · have hpo : p ≠ i := by
                  have := hcd' p i
                  rw [a_can_eq hR1 hl2 hs hi2 hl.2.2.2, e] at this
                  exact a_can_ne this
                obtain ⟨l', M', u', q', m1, hM'⟩ := q_likeM hT hR1 hl2 hs hi2 hpo ln u q
                rw [if_pos e, if_neg n10, m1, g_b5_s, gs_gd_t (gs_in_nI (i := 7 * p + i) (n := 49) (by omega) (by decide)), nI_clamp (n := 7 * p + i) (by omega), hld']
                exact go l' M' u' q' _ (fun j hj => (hM' j hj).trans (hM1 j hj)) (hset _ (by unfold l_sp; rw [if_pos e]))
              · rw [if_neg e, if_pos rfl, gs_gd_t (gs_in_nI (i := 7 * p + i) (n := 49) (by omega) (by decide)), nI_clamp (n := 7 * p + i) (by omega)]
                exact go ln M1 u q _ hM1 (hset _ (by unfold l_sp; rw [if_neg e]))
            · have e : i = P := by omega
              subst e
              rw [if_pos (nI_le (Nat.le_refl _) (by omega))]
              try dsimp only
              unfold f_X12_laysLessons_58
              rw [nI_1 p]
              refine ih (p + 1, ln, M1, u, q, lks) (by show i - (p + 1) < i - p; omega) (by show p + 1 ≤ i; omega) hM1 (fun p' hp' j hj => ?_)
              replace hp' : p' < p + 1 := hp'
              exact hk p' j hj (by omega)) gs_fuel (0, ln, M1, u, q, lks) (by show P - 0 < gs_fuel; rw [gs_fuel_eq]; omega) (Nat.zero_le _) hM1 (fun p' j hj hc => by
                replace hc : p' < p ∨ (p' = p ∧ j < 0) := hc
                exact hk p' (by omega) j hj)
        exact hin
      · have e : p = P := by omega
        subst e
        rw [if_pos (nI_le (Nat.le_refl _) (by omega))]
        try dsimp only
        obtain ⟨mo', e, hmo⟩ := l_table (can := can) (lk := lk) hP hk h8 ln M1 u q mo
        rw [e]
        exact ⟨_, _, _, _, _, _, rfl, hM1, hmo, hk⟩) gs_fuel (0, ln, M, u, q, lks) (by show P - 0 < gs_fuel; rw [gs_fuel_eq]; omega) (Nat.zero_le _) (fun _ _ => rfl) (fun p hp => absurd hp (Nat.not_lt_zero _))
  exact hr
theorem o_lessons (hT : g_T P S len rF rL L Fs W CC fF fT lF lT ML MF MW CM fA lA) (hR : g_R P S D len mem C M 0) (x y ln bm bl : Int32) (v t lks way best u q mo lkm : Nat → Int32) :
    (∃ w a1 a2 a3 a4 a5 a6 a7 b1 M' b2 b3 b4 b5, f_X11_lessons x y (nI S) (nI P) lF lT L Fs W CC C v t bm bl lks way best = some (.inr (w, a1, a2, a3, a4, a5, a6, a7)) ∧ f_X12_lessons x y th (nI S) (nI P) lA ln ML MF MW CM M u q mo lkm = some (w, 0, b1, M', b2, b3, b4, b5) ∧ ∀ j, j < 372 → M' j = M j) ∨
    (f_X11_lessons x y (nI S) (nI P) lF lT L Fs W CC C v t bm bl lks way best = some (.inl 1) ∧ ∃ w, f_X12_lessons x y th (nI S) (nI P) lA ln ML MF MW CM M u q mo lkm = some (w, 1, ln, M, u, q, mo, lkm)) := by
  obtain ⟨hP, hS, hlen, hF, hW, -, hrL⟩ := id hT
  unfold f_X11_lessons f_X12_lessons
  rcases n_song hS x with ⟨s, hs, e⟩ | ⟨e1, e2⟩
  · subst e
    have hl := hlen s hs
    rw [(n_song_t hs hS).1, (n_song_t hs hS).2, g_bx1_r, g_b2_s, if_neg n10]
    rcases n_what2 y with ⟨k, hk, e, e1, e2⟩ | ⟨e1, e2⟩
    · subst e
      rw [e1, e2, g_bx1_r, g_b2_s, if_neg n10]
      left
      obtain ⟨v', t', lks', way', best', ec, -⟩ := l_planC (C := C) hT hs v t bm bl lks way best
      obtain ⟨ln', M', u', q', mo', lkm', em, hM', hmo, -⟩ := l_laysM hT hR hs ln u q mo lkm
      have h0 := hmo 0 (Nat.zero_le _) 0 (Nat.two_pow_pos P)
      have hle : l_mo P (fun p o => !g_H C p s && g_rd C (len s) o s) (fun p o => g_lk rL W (len s) C Fs p s o) P 0 0 ≤ 1008 * P := l_mo_le (fun p o => by
        show g_lk rL W (len s) C Fs p s o ≤ 8
        unfold g_lk
        have := g_ct_le (fun k => g_nt (g_mn (g_lv rL (W p) (C 0) (g_nt (C (8 + 5 * o + s))) (len s)) (len s)) k == g_nt (Fs s) k) (len s)
        omega) P 0 0
      rw [ec, em, g_b7_s, g_b6_s]
      generalize l_mo P (fun p o => !g_H C p s && g_rd C (len s) o s) (fun p o => g_lk rL W (len s) C Fs p s o) P 0 0 = Z at *
      have hz : mo' (0 : Int32).toNatClampNeg = nI Z := h0
      have d1 : nI Z / 1000 = nI (Z / 1000) := pk_div (a := Z) (d := 1000) (by omega) (by omega) (by omega)
      have d2 : nI Z - nI Z / 1000 * 1000 = nI (Z % 1000) := pk_rem (a := Z) (d := 1000) (by omega) (by omega) (by omega)
      rw [hz, d2, d1, gs_gd_t (by decide), gs_gd_t (by decide)]
      by_cases e : nI k = 0
      · rw [if_pos e, if_pos e]
        exact ⟨_, _, _, _, _, _, _, _, _, _, _, _, _, _, rfl, rfl, hM'⟩
      · rw [if_neg e, if_neg e]
        exact ⟨_, _, _, _, _, _, _, _, _, _, _, _, _, _, rfl, rfl, hM'⟩
    · rw [e1, e2, g_bx1_l, g_b2_s, if_pos rfl]
      exact Or.inr ⟨rfl, _, rfl⟩
  · rw [e1, e2, g_bx1_l, g_b2_s, if_pos rfl]
    exact Or.inr ⟨rfl, _, rfl⟩
/-- model: of whom one learns, found again in the table -/
theorem l_find {can : Nat → Nat → Bool} {lk : Nat → Nat → Nat} {lks mo : Nat → Int32} (hP : P ≤ 7) (hk : ∀ p, p < P → ∀ t, t < P → lks (7 * p + t) = l_sp can lk p t) (h8 : ∀ p t, lk p t ≤ 8) (hmo : ∀ p, p ≤ P → ∀ x, x < 2 ^ P → mo (128 * p + x) = nI (l_mo P can lk (P - p) p x)) {q x : Nat} (hq : q < P) (hx : x < 2 ^ P) (y1 : Int32) (ln : Int32) (M u pl : Nat → Int32) (K : Int32 → Option (Int32 × Int32 × Int32 × (Nat → Int32) × (Nat → Int32) × (Nat → Int32) × (Nat → Int32) × (Nat → Int32))) :
    gs_it (fun _ _ => none) (f_X12_lesson_53 y1 (nI x) (nI q) th (nI P) ln M u pl mo lks K) gs_fuel (-1) (nI P - 1) = K (g_oi (l_ch P can lk (P - q - 1) q x)) := by
  have h2P : 2 ^ P ≤ 128 := Nat.pow_le_pow_right (n := 2) (by decide) hP
  rw [l_sub1]
  have er : P - q = (P - q - 1) + 1 := by omega
  have hm : mo (128 * q + x) = nI (l_mo P can lk ((P - q - 1) + 1) q x) := by rw [← er]; exact hmo q (by omega) x hx
  have h := g_run (z := fun _ _ => none) (b := f_X12_lesson_53 y1 (nI x) (nI q) th (nI P) ln M u pl mo lks K) (ρ := Int32 × Int32 × Int32 × (Nat → Int32) × (Nat → Int32) × (Nat → Int32) × (Nat → Int32) × (Nat → Int32)) (σ := Nat)
    (fun K k => K (g_oi (g_ff (fun t => l_ok can q x t && (l_f P can lk (P - q - 1) q x t == l_mo P can lk ((P - q - 1) + 1) q x)) (P - k) k)) (nI k + (-1))) (fun k => k) (fun k o => k ≤ P → o = K (g_oi (l_ch P can lk (P - q - 1) q x)))
    (fun K2 k ih hk2 => by
      show f_X12_lesson_53 y1 (nI x) (nI q) th (nI P) ln M u pl mo lks K K2 (g_oi (g_ff _ (P - k) k)) (nI k + (-1)) = _
      unfold f_X12_lesson_53
      cases k with
      | zero =>
        rw [if_pos (by decide)]
        rfl
      | succ k =>
        have e1 : P - k = (P - (k + 1)) + 1 := by omega
        have go := ih k (Nat.lt_succ_self _) (by omega)
        try dsimp only at go
        rw [e1, g_ff] at go
        rw [g_pred, if_neg (nI_pos (by omega)), l_canOf (by omega) (by omega) (by omega) (hk q hq k (by omega)) (h8 q k), gs_b1_s]
        by_cases e : l_ok can q x k = true
        · have hc : can q k = true := by
            unfold l_ok at e
            rw [Bool.and_eq_true] at e
            exact e.1
          have hor : x ||| 2 ^ k < 2 ^ P := Nat.or_lt_two_pow hx (Nat.pow_lt_pow_right (by decide) (by omega))
          have hm2 : mo (128 * (q + 1) + (x ||| 2 ^ k)) = nI (l_mo P can lk (P - q - 1) (q + 1) (x ||| 2 ^ k)) := by
            rw [hmo (q + 1) (by omega) _ hor]
            rfl
          have hf : l_f P can lk (P - q - 1) q x k ≤ 8064 := by
            have h1 := l_mo_le (P := P) (can := can) h8 (P - q - 1) (q + 1) (x ||| 2 ^ k)
            have h2 := h8 q k
            unfold l_f
            omega
          have hb := l_mo_le (P := P) (can := can) h8 ((P - q - 1) + 1) q x
          rw [if_pos e, if_neg n10, l_learnsOf (P := P) (r := P - q - 1) (by omega) (by omega) (by omega) (hk q hq k (by omega)) hc hm2, gs_b1_s, l_ixm, gs_gd_t (gs_in_nI (i := 128 * q + x) (n := 1024) (by omega) (by decide)), nI_clamp (n := 128 * q + x) (by omega), hm]
          by_cases z : l_f P can lk (P - q - 1) q x k = l_mo P can lk ((P - q - 1) + 1) q x
          · rw [if_pos (by rw [z])]
            rw [if_pos (by rw [e, z]; simp)] at go
            exact go
          · rw [if_neg (fun w => z ((nI_eq (by omega) (by omega)).mp w))]
            rw [if_neg (by simp [z])] at go
            exact go
        · rw [if_neg e, if_pos rfl]
          rw [if_neg (by rw [Bool.eq_false_iff.mpr e]; simp)] at go
          exact go) gs_fuel P (by show P < gs_fuel; rw [gs_fuel_eq]; omega) (Nat.le_refl _)
  have h' : gs_it (fun _ _ => none) (f_X12_lesson_53 y1 (nI x) (nI q) th (nI P) ln M u pl mo lks K) gs_fuel (g_oi (g_ff (fun t => l_ok can q x t && (l_f P can lk (P - q - 1) q x t == l_mo P can lk ((P - q - 1) + 1) q x)) (P - P) P)) (nI P + (-1)) = _ := h
  rw [Nat.sub_self] at h'
  exact h'
def l_it (P : Nat) (can : Nat → Nat → Bool) (lk : Nat → Nat → Nat) : Nat → Int32
  | 0 => -1
  | q + 1 => g_oi (l_ch P can lk (P - q - 1) q (l_um P can lk q))
theorem o_lesson (hT : g_T P S len rF rL L Fs W CC fF fT lF lT ML MF MW CM fA lA) (hR : g_R P S D len mem C M 0) (x y ln bm bl : Int32) (v t lks way best u q mo lkm : Nat → Int32) :
    (∃ w a1 a2 a3 a4 a5 a6 a7 b1 M' b2 b3 b4 b5, f_X11_lesson x y (nI S) (nI P) lF lT L Fs W CC C v t bm bl lks way best = some (.inr (w, a1, a2, a3, a4, a5, a6, a7)) ∧ f_X12_lesson x y th (nI S) (nI P) lA ln ML MF MW CM M u q mo lkm = some (w, 0, b1, M', b2, b3, b4, b5) ∧ ∀ j, j < 372 → M' j = M j) ∨
    (f_X11_lesson x y (nI S) (nI P) lF lT L Fs W CC C v t bm bl lks way best = some (.inl 1) ∧ ∃ w, f_X12_lesson x y th (nI S) (nI P) lA ln ML MF MW CM M u q mo lkm = some (w, 1, ln, M, u, q, mo, lkm)) := by
  obtain ⟨hP, hS, hlen, hF, hW, -, hrL⟩ := id hT
  unfold f_X11_lesson f_X12_lesson
  rcases n_person hP x with ⟨p, hp, e⟩ | ⟨e1, e2⟩
  · subst e
    rw [(n_person_t hp hP).1, (n_person_t hp hP).2, g_bx1_r, g_b2_s, if_neg n10]
    rcases n_song hS y with ⟨s, hs, e⟩ | ⟨e1, e2⟩
    · subst e
      have hl := hlen s hs
      rw [(n_song_t hs hS).1, (n_song_t hs hS).2, g_bx1_r, g_b2_s, if_neg n10]
      left
      obtain ⟨v', t', lks', way', best', ec, hbest⟩ := l_planC (C := C) hT hs v t bm bl lks way best
      obtain ⟨ln', M', u', q', mo', lkm', em, hM', hmo, hk⟩ := l_laysM hT hR hs ln u q mo lkm
      have h8 : ∀ p o, (fun p o => g_lk rL W (len s) C Fs p s o) p o ≤ 8 := fun p o => by
        show g_lk rL W (len s) C Fs p s o ≤ 8
        unfold g_lk
        have := g_ct_le (fun k => g_nt (g_mn (g_lv rL (W p) (C 0) (g_nt (C (8 + 5 * o + s))) (len s)) (len s)) k == g_nt (Fs s) k) (len s)
        omega
      rw [ec, em, g_b7_s, g_b6_s]
      generalize (fun p o => !g_H C p s && g_rd C (len s) o s) = can at *
      generalize (fun p o => g_lk rL W (len s) C Fs p s o) = lk at *
      unfold f_X4_bestTeacher
      rw [gs_gd_t (gs_in_nI (by omega) (by decide)), nI_clamp (by omega), gs_b1_s, hbest p hp]
      have hr := g_run (z := fun _ _ _ => none) (b := f_X12_lesson_36 (nI p) 0 (nI P) ln' M' u' q' mo' lkm') (ρ := Int32 × Int32 × Int32 × (Nat → Int32) × (Nat → Int32) × (Nat → Int32) × (Nat → Int32) × (Nat → Int32)) (σ := Nat) (fun K k => K (nI (l_um P can lk k)) (l_it P can lk k) (nI k)) (fun k => p + 1 - k)
        (fun k o => k ≤ p + 1 → o = some (l_it P can lk (p + 1), 0, ln', M', u', q', mo', lkm'))
        (fun K k ih hkp => by
          show f_X12_lesson_36 (nI p) 0 (nI P) ln' M' u' q' mo' lkm' K (nI (l_um P can lk k)) (l_it P can lk k) (nI k) = _
          unfold f_X12_lesson_36
          rcases Nat.lt_or_ge p k with hl2 | hl2
          · have e : k = p + 1 := by omega
            subst e
            rw [if_pos (nI_lt (by omega) (by omega))]
          · have hu := l_um_lt (P := P) (can := can) (lk := lk) hP k
            rw [if_neg (nI_nlt hl2 (by omega)), l_find hP hk h8 hmo (by omega) hu]
            have go := ih (k + 1) (by show p + 1 - (k + 1) < p + 1 - k; omega) (by omega)
            try dsimp only at go
            rw [l_um, l_it] at go
            unfold f_X12_lesson_105
            rw [nI_1 k]
            cases hc : l_ch P can lk (P - k - 1) k (l_um P can lk k) with
            | none =>
              rw [hc] at go
              rw [if_pos (show g_oi none = -1 from rfl)]
              exact go
            | some j =>
              rw [hc] at go
              have hj := (g_ff_some P 0 hc).2.1
              show (if nI j = -1 then _ else K (nI (l_um P can lk k) ||| ((1 : Int32) <<< (nI j &&& 31))) (nI j) (nI (k + 1))) = _
              rw [if_neg (g_m1 (by omega)), l_set (by omega)]
              exact go) gs_fuel 0 (by show p + 1 - 0 < gs_fuel; rw [gs_fuel_eq]; omega) (Nat.zero_le _)
      have hr' : gs_it (fun _ _ _ => none) (f_X12_lesson_36 (nI p) 0 (nI P) ln' M' u' q' mo' lkm') gs_fuel 0 (-1) 0 = some (l_it P can lk (p + 1), 0, ln', M', u', q', mo', lkm') := hr
      rw [hr']
      exact ⟨_, _, _, _, _, _, _, _, _, _, _, _, _, _, rfl, rfl, hM'⟩
    · rw [e1, e2, g_bx1_l, g_b2_s, if_pos rfl]
      exact Or.inr ⟨rfl, _, rfl⟩
  · rw [e1, e2, g_bx1_l, g_b2_s, if_pos rfl]
    exact Or.inr ⟨rfl, _, rfl⟩
end LES2
