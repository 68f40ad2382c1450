/-! ===== pure rows: lessons for all, the class's plan, the model's table ===== -/
def l_sp (can : Nat → Nat → Bool) (lk : Nat → Nat → Nat) (p t : Nat) : Int32 := if can p t = true then nI (lk p t) else -1
theorem l_ix (p t : Nat) : (7 : Int32) * nI p + nI t = nI (7 * p + t) := by
  show nI 7 * nI p + nI t = _
  rw [pk_mul, nI_add]
theorem l_ixr (p t : Nat) : nI p * 7 + nI t = nI (7 * p + t) := by
  show nI p * nI 7 + nI t = _
  rw [pk_mul, nI_add, Nat.mul_comm]
theorem l_ixm (p t : Nat) : (128 : Int32) * nI p + nI t = nI (128 * p + t) := by
  show nI 128 * nI p + nI t = _
  rw [pk_mul, nI_add]
theorem l_sub1 (x : Int32) : x - 1 = x + (-1) := Int32.sub_eq_add_neg ..
section LES
variable {P S D : Nat} {len mem : Nat → Nat} {rF rL : Option (List Nat)} {C M L Fs W CC ML MF MW CM mems : Nat → Int32} {fF fT lF lT fA lA pr pm th : Int32}
theorem l_planC (hT : g_T P S len rF rL L Fs W CC fF fT lF lT ML MF MW CM fA lA) {s : Nat} (hs : s < S) (v t : Nat → Int32) (bm bl : Int32) (lks way best : Nat → Int32) :
    ∃ v' t' lks' way' best', f_X11_planLessons (nI s) (nI P) lF lT L Fs W CC C v t bm bl lks way best = some (v', t', nI (l_mo P (fun p o => !g_H C p s && g_rd C (len s) o s) (fun p o => g_lk rL W (len s) C Fs p s o) P 0 0 / 1000), nI (l_mo P (fun p o => !g_H C p s && g_rd C (len s) o s) (fun p o => g_lk rL W (len s) C Fs p s o) P 0 0 % 1000), lks', way', best') ∧ ∀ p, p < P → best' p = g_oi (l_ch P (fun p o => !g_H C p s && g_rd C (len s) o s) (fun p o => g_lk rL W (len s) C Fs p s o) (P - p - 1) p (l_um P (fun p o => !g_H C p s && g_rd C (len s) o s) (fun p o => g_lk rL W (len s) C Fs p s o) p)) := by
  obtain ⟨hP, hS, hlen, hF, hW, -, hrL⟩ := id hT
  have hl := hlen s hs
  have h8' : ∀ p o, g_lk rL W (len s) C Fs p s o ≤ 8 := fun p o => by
    unfold g_lk
    have := g_ct_le (fun k => g_nt (g_mn (g_lv rL (W p) (C 0) (g_nt (C (8 + 5 * o + s))) (len s)) (len s)) k == g_nt (Fs s) k) (len s)
    omega
  generalize hcd : (fun p o => !g_H C p s && g_rd C (len s) o s) = can
  have hcd' : ∀ p o, (!g_H C p s && g_rd C (len s) o s) = can p o := fun p o => congrFun (congrFun hcd p) o
  generalize hld : (fun p o => g_lk rL W (len s) C Fs p s o) = lk
  have hld' : ∀ p o, g_lk rL W (len s) C Fs p s o = lk p o := fun p o => congrFun (congrFun hld p) o
  have h8 : ∀ p t, lk p t ≤ 8 := fun p t => by rw [← hld']; exact h8' p t
  unfold f_X11_planLessons f_X4_clear
  rw [gs_fill (by omega), gs_b1_s, gs_b1_s]
  have hr := g_run (z := fun _ _ _ _ => none) (b := f_X11_planLessons_9 (nI s) (nI P) lF lT L Fs W CC C bm bl way best (fun (r_t_course_reckoner_values' : Nat → Int32) (r_t_course_reckoner_stack' : Nat → Int32) (r_t_plan_likes' : Nat → Int32) => f_X11_planLessons_78 (nI P) r_t_course_reckoner_values' r_t_course_reckoner_stack' bm bl r_t_plan_likes' way best)) (ρ := (Nat → Int32) × (Nat → Int32) × Int32 × Int32 × (Nat → Int32) × (Nat → Int32) × (Nat → Int32)) (σ := Nat × (Nat → Int32) × (Nat → Int32) × (Nat → Int32)) (fun K y => K (nI y.1) y.2.1 y.2.2.1 y.2.2.2) (fun y => P - y.1)
    (fun y o => y.1 ≤ P → (∀ p, p < P → ∀ i, i < P → y.2.2.2 (7 * p + i) = if p < y.1 then l_sp can lk p i else -1) → ∃ v' t' lks' way' best', o = some (v', t', nI (l_mo P can lk P 0 0 / 1000), nI (l_mo P can lk P 0 0 % 1000), lks', way', best') ∧ ∀ p, p < P → best' p = g_oi (l_ch P can lk (P - p - 1) p (l_um P can lk p)))
    (by
      rintro K ⟨p, v, t, lks⟩ ih hp hk
      replace hp : p ≤ P := hp
      replace hk : ∀ p', p' < P → ∀ i, i < P → lks (7 * p' + i) = if p' < p then l_sp can lk p' i else -1 := hk
      show ∃ v' t' lks' way' best', f_X11_planLessons_9 (nI s) (nI P) lF lT L Fs W CC C bm bl way best _ K (nI p) v t lks = _ ∧ _
      unfold f_X11_planLessons_9
      rcases Nat.lt_or_ge p P with hl2 | hl2
      · rw [if_neg (nI_ge hl2 (by omega))]
        have hin := g_run (z := fun _ _ _ _ => none) (b := f_X11_planLessons_22 (nI s) (nI p) (nI P) lF lT L Fs W CC C bm bl way best (fun (r_t_course_reckoner_values' : Nat → Int32) (r_t_course_reckoner_stack' : Nat → Int32) (r_t_plan_likes' : Nat → Int32) => f_X11_planLessons_72 (fun (x2' : Int32) (r_t_course_reckoner_values' : Nat → Int32) (r_t_course_reckoner_stack' : Nat → Int32) (r_t_plan_likes' : Nat → Int32) => K x2' r_t_course_reckoner_values' r_t_course_reckoner_stack' r_t_plan_likes') (nI s) (nI p) (nI P) lF lT L Fs W CC C r_t_course_reckoner_values' r_t_course_reckoner_stack' bm bl r_t_plan_likes' way best)) (ρ := (Nat → Int32) × (Nat → Int32) × Int32 × Int32 × (Nat → Int32) × (Nat → Int32) × (Nat → Int32)) (σ := Nat × (Nat → Int32) × (Nat → Int32) × (Nat → Int32)) (fun K y => K (nI y.1) y.2.1 y.2.2.1 y.2.2.2) (fun y => P - y.1)
          (fun y o => y.1 ≤ P → (∀ p', p' < P → ∀ i, i < P → y.2.2.2 (7 * p' + i) = if p' < p ∨ (p' = p ∧ i < y.1) then l_sp can lk p' i else -1) → ∃ v' t' lks' way' best', o = some (v', t', nI (l_mo P can lk P 0 0 / 1000), nI (l_mo P can lk P 0 0 % 1000), lks', way', best') ∧ ∀ p, p < P → best' p = g_oi (l_ch P can lk (P - p - 1) p (l_um P can lk p)))
          (by
            rintro K2 ⟨i, v, t, lks⟩ ih2 hi hk
            replace hi : i ≤ P := hi
            replace hk : ∀ p', p' < P → ∀ j, j < P → lks (7 * p' + j) = if p' < p ∨ (p' = p ∧ j < i) then l_sp can lk p' j else -1 := hk
            show ∃ v' t' lks' way' best', f_X11_planLessons_22 (nI s) (nI p) (nI P) lF lT L Fs W CC C bm bl way best _ K2 (nI i) v t lks = _ ∧ _
            unfold f_X11_planLessons_22
            rcases Nat.lt_or_ge i P with hi2 | hi2
            · have go := fun v t lks h => ih2 (i + 1, v, t, lks) (by show P - (i + 1) < P - i; omega) (by show i + 1 ≤ P; omega) h
              rw [if_neg (nI_ge hi2 (by omega)), a_canC (by omega) (by omega) (by omega) hl.1 hl.2.2.2, gs_b1_s, hcd', nI_1 i]
              by_cases e : can p i = true
              · obtain ⟨v', t', c1⟩ := q_likeC (C := C) hT hl2 hs hi2 v t
                rw [if_pos e, if_neg n10, c1, g_b3_s]
                unfold f_X4_offer
                rw [l_ixr, gs_gd_t (gs_in_nI (i := 7 * p + i) (n := 49) (by omega) (by decide)), gs_b1_s, nI_clamp (n := 7 * p + i) (by omega), hld']
                refine go v' t' _ (fun p' hp' j hj => ?_)
                show upd lks (7 * p + i) (nI (lk p i)) (7 * p' + j) = if p' < p ∨ (p' = p ∧ j < i + 1) then l_sp can lk p' j else -1
                by_cases ee : p' = p ∧ j = i
                · rw [ee.1, ee.2, pk_us, if_pos (by omega)]
                  unfold l_sp
                  rw [if_pos e]
                · rw [pk_un (by omega), hk p' hp' j hj]
                  by_cases z : p' < p ∨ (p' = p ∧ j < i)
                  · rw [if_pos z, if_pos (by omega)]
                  · rw [if_neg z, if_neg (by omega)]
              · rw [if_neg e, if_pos rfl]
                refine go v t lks (fun p' hp' j hj => ?_)
                show lks (7 * p' + j) = if p' < p ∨ (p' = p ∧ j < i + 1) then l_sp can lk p' j else -1
                rw [hk p' hp' j hj]
                by_cases ee : p' = p ∧ j = i
                · rw [ee.1, ee.2, if_neg (by omega), if_pos (by omega)]
                  unfold l_sp
                  rw [if_neg e]
                · by_cases z : p' < p ∨ (p' = p ∧ j < i)
                  · rw [if_pos z, if_pos (by omega)]
                  · rw [if_neg z, if_neg (by omega)]
            · have e : i = P := by omega
              subst e
              rw [if_pos (nI_le (Nat.le_refl _) (by omega))]
              try dsimp only
              unfold f_X11_planLessons_72
              rw [nI_1 p]
              refine ih (p + 1, v, t, lks) (by show i - (p + 1) < i - p; omega) (by show p + 1 ≤ i; omega) (fun p' hp' j hj => ?_)
              show lks (7 * p' + j) = if p' < p + 1 then l_sp can lk p' j else -1
              rw [hk p' hp' j hj]
              by_cases z : p' < p + 1
              · rw [if_pos z, if_pos (by omega)]
              · rw [if_neg z, if_neg (by omega)]) gs_fuel (0, v, t, lks) (by show P - 0 < gs_fuel; rw [gs_fuel_eq]; omega) (Nat.zero_le _) (fun p' hp' j hj => by
                show lks (7 * p' + j) = if p' < p ∨ (p' = p ∧ j < 0) then l_sp can lk p' j else -1
                rw [hk p' hp' j hj]
                by_cases z : p' < p
                · rw [if_pos z, if_pos (by omega)]
                · rw [if_neg z, if_neg (by omega)])
        exact hin
      · have e : p = P := by omega
        subst e
        rw [if_pos (nI_le (Nat.le_refl _) (by omega))]
        try dsimp only
        unfold f_X11_planLessons_78
        obtain ⟨w', b', e, hb⟩ := l_solve (can := can) (lk := lk) (likes := lks) hP (fun p' hp' i hi => by rw [hk p' hp' i hi, if_pos hp']; rfl) h8 bm bl way best
        rw [e, g_b4_s]
        exact ⟨_, _, _, _, _, rfl, hb⟩) gs_fuel (0, v, t, fun j => if j < 49 then -1 else lks j) (by show P - 0 < gs_fuel; rw [gs_fuel_eq]; omega) (Nat.zero_le _) (fun p hp i hi => by
          show (if 7 * p + i < 49 then (-1 : Int32) else lks (7 * p + i)) = if p < 0 then l_sp can lk p i else -1
          rw [if_pos (by omega), if_neg (by omega)])
  exact hr
theorem l_canOf {can : Nat → Nat → Bool} {lk : Nat → Nat → Nat} {lks : Nat → Int32} {q t u : Nat} (hq : q < 7) (ht : t < 7) (hu : u < 128) (h : lks (7 * q + t) = l_sp can lk q t) (h8 : lk q t ≤ 8) : f_X12_canOf (nI q) (nI t) (nI u) lks = some (if l_ok can q u t = true then 1 else 0) := by
  unfold f_X12_canOf l_ok
  rw [l_bit hu ht]
  by_cases c : u.testBit t = true
  · rw [if_neg (by rw [if_pos c]; decide), if_neg (by rw [c]; simp)]
  · rw [if_pos (by rw [if_neg c]; rfl), l_ix, gs_gd_t (gs_in_nI (i := 7 * q + t) (n := 49) (by omega) (by decide)), nI_clamp (n := 7 * q + t) (by omega), h]
    unfold l_sp
    by_cases c2 : can q t = true
    · rw [if_pos c2, if_neg (nI_pos (by omega)), if_pos (by rw [c2, Bool.eq_false_iff.mpr c]; rfl)]
    · rw [if_neg c2, if_pos (by decide), if_neg (by rw [Bool.eq_false_iff.mpr c2]; simp)]
theorem l_learnsOf {can : Nat → Nat → Bool} {lk : Nat → Nat → Nat} {lks mo : Nat → Int32} {r q t u : Nat} (hq : q < 7) (ht : t < 7) (hu : u < 128) (h : lks (7 * q + t) = l_sp can lk q t) (hc : can q t = true) (hm : mo (128 * (q + 1) + (u ||| 2 ^ t)) = nI (l_mo P can lk r (q + 1) (u ||| 2 ^ t))) : f_X12_learnsOf (nI q) (nI t) (nI u) mo lks = some (nI (l_f P can lk r q u t)) := by
  have hlt := l_set_lt hu ht
  unfold f_X12_learnsOf
  rw [l_set ht, nI_1 q, l_ix, l_ixm, gs_gd_t (gs_in_nI (i := 7 * q + t) (n := 49) (by omega) (by decide)), gs_gd_t (gs_in_nI (i := 128 * (q + 1) + (u ||| 2 ^ t)) (n := 1024) (by omega) (by decide)), nI_clamp (n := 7 * q + t) (by omega), nI_clamp (n := 128 * (q + 1) + (u ||| 2 ^ t)) (by omega), h, hm]
  unfold l_sp
  rw [if_pos hc]
  show some (nI 1000 + nI (lk q t) + nI (l_mo P can lk r (q + 1) (u ||| 2 ^ t))) = _
  rw [nI_add, nI_add]
  rfl
/-- model: the table of the best -/
theorem l_table {can : Nat → Nat → Bool} {lk : Nat → Nat → Nat} {lks : Nat → Int32} (hP : P ≤ 7) (hk : ∀ p, p < P → ∀ t, t < P → lks (7 * p + t) = l_sp can lk p t) (h8 : ∀ p t, lk p t ≤ 8) (ln : Int32) (M u q mo : Nat → Int32) :
    ∃ mo', f_X12_laysLessons_64 (nI P) ln M u q mo lks = some (ln, M, u, q, mo', lks) ∧ ∀ p, p ≤ P → ∀ x, x < 2 ^ P → mo' (128 * p + x) = nI (l_mo P can lk (P - p) p x) := by
  have h2P : 2 ^ P ≤ 128 := Nat.pow_le_pow_right (n := 2) (by decide) hP
  unfold f_X12_laysLessons_64
  have h0 : ∀ K95, gs_it (fun _ _ => none) (f_X12_laysLessons_66 (nI P) ln M u q lks K95) gs_fuel 0 mo = K95 (g_cpy (fun _ => 0) mo (128 * P) 128) := by
    intro K95
    refine g_lb 128 (fun i => g_cpy (fun _ => 0) mo (128 * P) i) (by omega) (g_cpy_0 _ _ _) (fun K i hi => ?_) (fun K => ?_)
    · unfold f_X12_laysLessons_66
      rw [if_neg (show ¬ (128 : Int32) ≤ nI i from nI_ge (b := 128) hi (by omega)), l_ixm, gs_gd_t (gs_in_nI (i := 128 * P + i) (n := 1024) (by omega) (by decide)), nI_clamp (n := 128 * P + i) (by omega), nI_1 i]
      exact congrArg (K (nI (i + 1))) (g_cpy_s (fun _ => 0) mo (128 * P) i)
    · unfold f_X12_laysLessons_66
      rw [if_pos (by decide)]
  rw [h0]
  unfold f_X12_laysLessons_95
  rw [l_sub1]
  have hr := g_run (z := fun _ _ => none) (b := f_X12_laysLessons_102 (nI P) ln M u q lks) (ρ := Int32 × (Nat → Int32) × (Nat → Int32) × (Nat → Int32) × (Nat → Int32) × (Nat → Int32)) (σ := Nat × (Nat → Int32)) (fun K y => K (nI y.1 + (-1)) y.2) (fun y => y.1)
    (fun y o => y.1 ≤ P → (∀ p, y.1 ≤ p → p ≤ P → ∀ x, x < 2 ^ P → y.2 (128 * p + x) = nI (l_mo P can lk (P - p) p x)) → ∃ mo', o = some (ln, M, u, q, mo', lks) ∧ ∀ p, p ≤ P → ∀ x, x < 2 ^ P → mo' (128 * p + x) = nI (l_mo P can lk (P - p) p x))
    (by
      rintro K ⟨k, mo⟩ ih hk2 hmo
      replace hk2 : k ≤ P := hk2
      replace hmo : ∀ p, k ≤ p → p ≤ P → ∀ x, x < 2 ^ P → mo (128 * p + x) = nI (l_mo P can lk (P - p) p x) := hmo
      show ∃ mo', f_X12_laysLessons_102 (nI P) ln M u q lks K (nI k + (-1)) mo = _ ∧ _
      unfold f_X12_laysLessons_102
      cases k with
      | zero =>
        rw [if_pos (by decide)]
        exact ⟨_, rfl, fun p hp x hx => hmo p (Nat.zero_le _) hp x hx⟩
      | succ k =>
        rw [g_pred, if_neg (nI_pos (by omega))]
        have hrow : ∀ K198, gs_it (fun _ _ => none) (f_X12_laysLessons_108 (nI k) (nI P) ln M u q lks K198) gs_fuel 0 mo = K198 (g_cpy (fun x => nI (l_mo P can lk (P - k) k x)) mo (128 * k) (2 ^ P)) := by
          intro K198
          refine g_lb (2 ^ P) (fun i => g_cpy (fun x => nI (l_mo P can lk (P - k) k x)) mo (128 * k) i) (by omega) (g_cpy_0 _ _ _) (fun K i hi => ?_) (fun K => ?_)
          · unfold f_X12_laysLessons_108
            have er : P - k = (P - (k + 1)) + 1 := by omega
            have eo : ∀ x, x < 2 ^ P → g_cpy (fun x => nI (l_mo P can lk (P - k) k x)) mo (128 * k) i (128 * (k + 1) + x) = nI (l_mo P can lk (P - (k + 1)) (k + 1) x) := fun x hx => by
              rw [g_cpy_out (by omega)]
              exact hmo (k + 1) (Nat.le_refl _) (by omega) x hx
            rw [g_1shl P (by omega), if_neg (nI_ge hi (by omega)), nI_1 k, l_ixm, gs_gd_t (gs_in_nI (i := 128 * (k + 1) + i) (n := 1024) (by omega) (by decide)), nI_clamp (n := 128 * (k + 1) + i) (by omega), eo i hi]
            generalize hg : g_cpy (fun x => nI (l_mo P can lk (P - k) k x)) mo (128 * k) i = mi at eo ⊢
            have hin : ∀ K178, gs_it (fun _ _ => none) (f_X12_laysLessons_137 (nI k) (nI i) (nI P) ln M u q mi lks K178) gs_fuel (nI (l_mo P can lk (P - (k + 1)) (k + 1) i)) 0 = K178 (nI (l_mo P can lk (P - k) k i)) := by
              intro K178
              refine g_la P (fun t => nI (l_mx (l_ok can k i) (l_f P can lk (P - (k + 1)) k i) (l_mo P can lk (P - (k + 1)) (k + 1) i) t)) (by omega) rfl (fun K2 t ht => ?_) (fun K2 => ?_)
              · unfold f_X12_laysLessons_137
                have hle : ∀ j, l_mx (l_ok can k i) (l_f P can lk (P - (k + 1)) k i) (l_mo P can lk (P - (k + 1)) (k + 1) i) j ≤ 8064 := fun j => l_mx_le (by have := l_mo_le (P := P) (can := can) h8 (P - (k + 1)) (k + 1) i; omega) j (fun t _ _ => by
                  have h1 := l_mo_le (P := P) (can := can) h8 (P - (k + 1)) (k + 1) (i ||| 2 ^ t)
                  have h2 := h8 k t
                  unfold l_f
                  omega)
                rw [if_neg (nI_ge ht (by omega)), l_canOf (by omega) (by omega) (by omega) (hk k (by omega) t ht) (h8 k t), gs_b1_s, nI_1 t, l_mx]
                by_cases e : l_ok can k i t = true
                · have hc : can k t = true := by
                    unfold l_ok at e
                    rw [Bool.and_eq_true] at e
                    exact e.1
                  have hor : i ||| 2 ^ t < 2 ^ P := Nat.or_lt_two_pow hi (Nat.pow_lt_pow_right (by decide) ht)
                  have hft : l_f P can lk (P - (k + 1)) k i t ≤ 8064 := by
                    have h1 := l_mo_le (P := P) (can := can) h8 (P - (k + 1)) (k + 1) (i ||| 2 ^ t)
                    have h2 := h8 k t
                    unfold l_f
                    omega
                  have hj := hle t
                  rw [if_pos e, if_neg n10, l_learnsOf (P := P) (r := P - (k + 1)) (by omega) (by omega) (by omega) (hk k (by omega) t ht) hc (eo _ hor), gs_b1_s, g_greater, gs_b1_s, g_maxI (by omega) (by omega), if_pos e]
                · rw [if_neg e, if_pos rfl, if_neg e]
              · unfold f_X12_laysLessons_137
                rw [if_pos (nI_le (Nat.le_refl _) (by omega)), er, l_mo_s]
            rw [hin]
            unfold f_X12_laysLessons_178
            rw [l_ixm, gs_gd_t (gs_in_nI (i := 128 * k + i) (n := 1024) (by omega) (by decide)), nI_clamp (n := 128 * k + i) (by omega), nI_1 i, ← hg]
            exact congrArg (K (nI (i + 1))) (g_cpy_s (fun x => nI (l_mo P can lk (P - k) k x)) mo (128 * k) i)
          · unfold f_X12_laysLessons_108
            rw [g_1shl P (by omega), if_pos (nI_le (Nat.le_refl _) (by omega))]
        rw [hrow]
        unfold f_X12_laysLessons_198
        refine ih (k, _) (Nat.lt_succ_self _) (by show k ≤ P; omega) (fun p hp1 hp2 x hx => ?_)
        replace hp1 : k ≤ p := hp1
        show g_cpy (fun x => nI (l_mo P can lk (P - k) k x)) mo (128 * k) (2 ^ P) (128 * p + x) = _
        by_cases e : p = k
        · subst e
          rw [g_cpy_in (by omega) (by omega), show 128 * p + x - 128 * p = x by omega]
        · rw [g_cpy_out (by omega)]
          exact hmo p (by omega) hp2 x hx) gs_fuel (P, g_cpy (fun _ => 0) mo (128 * P) 128) (by show P < gs_fuel; rw [gs_fuel_eq]; omega) (Nat.le_refl _) (fun p hp1 hp2 x hx => by
        replace hp1 : P ≤ p := hp1
        have e : p = P := by omega
        subst e
        show g_cpy (fun _ => 0) mo (128 * p) 128 (128 * p + x) = _
        rw [g_cpy_in (by omega) (by omega), Nat.sub_self]
        rfl)
  exact hr
end LES
