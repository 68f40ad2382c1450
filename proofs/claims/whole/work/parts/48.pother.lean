/-! ===== pure rows: otherwise ===== -/
def g_me (mem : Nat → Nat) (g : Nat) : Nat → Nat := fun i => if i = g / 10 then g % 10 else mem i
def g_ow (ok : Nat → Bool) : Nat → Int32 × Int32
  | 0 => (0, -1)
  | i + 1 => if ok i = true then ((g_ow ok i).1 + 1, if (g_ow ok i).2 = -1 then nI i else (g_ow ok i).2) else g_ow ok i
def g_gok (rF rL : Option (List Nat)) (mem : Nat → Nat) (W : Nat → Int32) (P S : Nat) (len : Nat → Nat) (C HR : Nat → Int32) (m g : Nat) : Bool := !(mem (g / 10) == g % 10) && g_ex rF rL (g_me mem g) W P S len C HR m
section OW
variable {P S D m : Nat} {len mem : Nat → Nat} {rF rL : Option (List Nat)} {C M L Fs W CC ML MF MW CM mems HR HM : Nat → Int32} {fF fT lF lT fA lA pr pm th : Int32}
theorem g_R.memo {b g : Nat} (hP : P ≤ 7) (hS : S ≤ 5) (h : g_R P S D len mem C M b) (hg : g / 10 < P) : g_R P S D len (g_me mem g) C (upd M (b + 365 + g / 10) (nI (g % 10))) b := by
  obtain ⟨⟨d, hd, d1, d2⟩, h2, h3, h4⟩ := h
  refine ⟨⟨d, hd, d1, ?_⟩, fun p hp s hs => ?_, fun p hp => ?_, fun p hp => ?_⟩
  · rw [pk_un (by omega)]; exact d2
  · exact (h2 p hp s hs).of rfl rfl (fun k hk => pk_un (by omega)) (pk_un (by omega)) (pk_un (by omega))
  · have := h3 p hp
    unfold g_sk at this ⊢
    rw [pk_un (by omega), pk_un (by omega)]
    exact this
  · unfold g_me
    by_cases e : p = g / 10
    · rw [e, pk_us, if_pos rfl]
      exact ⟨rfl, by omega⟩
    · rw [pk_un (by omega), if_neg e]
      exact h4 p hp
theorem k_mem0 (hP : P ≤ 7) (hmem : ∀ p, p < P → mems p = nI (mem p)) (x : Int32) : ∀ i, i < P → f_X1_memoryOf (nI i) (-1) x mems = some (nI (mem i)) := by
  intro i hi
  unfold f_X1_memoryOf
  rw [if_neg (g_m1 (by omega)), gs_gd_t (gs_in_nI (by omega) (by decide)), nI_clamp (by omega), hmem i hi]
theorem k_mem1 (hP : P ≤ 7) (hmem : ∀ p, p < P → mems p = nI (mem p)) {g : Nat} (hg : g / 10 < P) : ∀ i, i < P → f_X1_memoryOf (nI i) (nI (g / 10)) (nI (g % 10)) mems = some (nI (g_me mem g i)) := by
  intro i hi
  unfold f_X1_memoryOf g_me
  by_cases e : i = g / 10
  · rw [if_pos (by rw [e]), if_pos e]
  · rw [if_neg (fun q => e ((nI_eq (by omega) (by omega)).mp q)), if_neg e, gs_gd_t (gs_in_nI (by omega) (by decide)), nI_clamp (by omega), hmem i hi]
theorem k_guessC (hT : g_T P S len rF rL L Fs W CC fF fT lF lT ML MF MW CM fA lA) (he : g_Ei P S len m HR HM) (hm8 : m ≤ 8) (hmem : ∀ p, p < P → mems p = nI (mem p)) (hR : g_R P S D len mem C M 0) {g : Nat} (hg : g / 10 < P) (tg fo pr pm : Int32) (v t tr : Nat → Int32) :
    ∃ a1 a2 a3 a4 a5, f_X11_explains (nI (g / 10)) (nI (g % 10)) (nI S) (nI P) fF fT lF lT L mems W CC C (nI m) HR tg fo pr pm v t tr = some (if g_ex rF rL (g_me mem g) W P S len C HR m = true then 1 else 0, a1, a2, -1, 0, a3, a4, a5) :=
  h_explC hT he hm8 (k_mem1 hT.1 hmem hg) (M0 := upd (g_cpy M M 372 372) (372 + 365 + g / 10) (nI (g % 10))) (fun tr => (hR.tries (tr := tr) hT.1 hT.2.1).memo hT.1 hT.2.1 hg) tg fo pr pm v t tr
theorem k_guessM (hT : g_T P S len rF rL L Fs W CC fF fT lF lT ML MF MW CM fA lA) (he : g_Ei P S len m HR HM) (hm8 : m ≤ 8) (hR : g_R P S D len mem C M 0) {g : Nat} (hg : g / 10 < P) (ln fn : Int32) (u q sn : Nat → Int32) :
    ∃ b1 b2 M' b3 b4 sn', f_X12_isGuess (nI g) (nI S) (nI P) fA lA 0 ln fn (nI m) ML MW CM M u q HM sn = some (if g_gok rF rL mem W P S len C HR m g = true then 1 else 0, b1, b2, M', b3, b4, sn') ∧ (∀ j, j < 372 → M' j = M j) ∧ (g_gok rF rL mem W P S len C HR m g = true → ∀ p, p < P → sn' p = nI (g_gs S len (g_cS rF rL (g_me mem g) W P S len C 10) p)) := by
  obtain ⟨hP, hS, -⟩ := id hT
  unfold f_X12_isGuess
  have d1 : nI g / 10 = nI (g / 10) := pk_div (a := g) (d := 10) (by omega) (by omega) (by omega)
  have d2 : nI g - nI g / 10 * 10 = nI (g % 10) := pk_rem (a := g) (d := 10) (by omega) (by omega) (by omega)
  have i1 : (365 : Int32) + nI (g / 10) = nI (365 + g / 10) := nI_add 365 _
  have i2 : (737 : Int32) + nI (g / 10) = nI (737 + g / 10) := nI_add 737 _
  have hme := hR.2.2.2 (g / 10) hg
  have hme' : M (365 + g / 10) = nI (mem (g / 10)) := by
    have := hme.1
    rw [Nat.zero_add] at this
    exact this
  rw [d2, d1, i1, i2, gs_gd_t (gs_in_nI (by omega) (by decide)), nI_clamp (n := 365 + g / 10) (by omega), hme']
  by_cases c1 : mem (g / 10) = g % 10
  · have hno : ¬ g_gok rF rL mem W P S len C HR m g = true := by
      unfold g_gok
      simp [c1]
    rw [if_pos (by rw [c1]), if_neg hno]
    exact ⟨_, _, _, _, _, _, rfl, fun _ _ => rfl, fun h => absurd h hno⟩
  · have h9 := hme.2
    have hgo : g_gok rF rL mem W P S len C HR m g = g_ex rF rL (g_me mem g) W P S len C HR m := by
      unfold g_gok
      simp [c1]
    rw [if_neg (fun z => c1 ((nI_eq (by omega) (by omega)).mp z)), m_tries, gs_b1_s, gs_gd_t (gs_in_nI (by omega) (by decide)), nI_clamp (by omega), hgo]
    have h0 := hR.tries (tr := C) hP hS
    rw [g_cpy_self] at h0
    have h1 := h0.memo hP hS hg
    obtain ⟨b1, b2, M', b3, b4, sn', e, hlo, hsn⟩ := h_explM hT he hm8 h1 ln fn u q sn
    rw [show (372 : Nat) + 365 + g / 10 = 737 + g / 10 by omega] at e hlo
    rw [e, g_b7_s]
    have hbz : gs_bz (if g_ex rF rL (g_me mem g) W P S len C HR m = true then 1 else 0) = true := by
      unfold gs_bz
      split <;> rfl
    rw [gs_gd_t hbz]
    refine ⟨_, _, _, _, _, _, rfl, fun j hj => ?_, hsn⟩
    rw [hlo j hj, pk_un (by omega), g_tries_lo hj]
theorem o_otherwise (hT : g_T P S len rF rL L Fs W CC fF fT lF lT ML MF MW CM fA lA) (he : g_Ei P S len m HR HM) (hm8 : m ≤ 8) (hmem : ∀ p, p < P → mems p = nI (mem p)) (hR : g_R P S D len mem C M 0) (x tg fo pm ln fn : Int32) (v t tr u q sn : Nat → Int32) :
    (∃ w a1 a2 pm' a3 a4 a5 b1 b2 M' b3 b4 sn', f_X11_otherwise x (nI S) (nI P) fF fT lF lT L mems W CC C (nI m) HR tg fo (-1) pm v t tr = some (.inr (w, a1, a2, -1, pm', a3, a4, a5)) ∧ f_X12_otherwise x th (nI S) (nI P) fA lA 0 ln fn (nI m) ML MW CM M u q HM sn = some (w, 0, b1, b2, M', b3, b4, sn') ∧ ∀ j, j < 372 → M' j = M j) ∨
    (f_X11_otherwise x (nI S) (nI P) fF fT lF lT L mems W CC C (nI m) HR tg fo (-1) pm v t tr = some (.inl 1) ∧ ∃ w, f_X12_otherwise x th (nI S) (nI P) fA lA 0 ln fn (nI m) ML MW CM M u q HM sn = some (w, 1, ln, fn, M, u, q, sn)) := by
  obtain ⟨hP, hS, hlen, hF, hW, -, -⟩ := id hT
  unfold f_X11_otherwise f_X12_otherwise
  rcases n_what3 x with ⟨k, hk, e, e1, e2⟩ | ⟨e1, e2⟩
  · subst e
    rw [e1, e2, g_bx1_r, g_b2_s, if_neg n10]
    left
    by_cases ck : nI k = 2
    · rw [if_pos ck, if_pos ck, m_tries, gs_b1_s]
      have h0 := hR.tries (tr := C) hP hS
      rw [g_cpy_self] at h0
      obtain ⟨a1, a2, a3, a4, a5, ec⟩ := h_explC hT he hm8 (k_mem0 hP hmem 0) (M0 := g_cpy M M 372 372) (C := C) (fun tr => hR.tries (tr := tr) hP hS) tg fo (-1) pm v t tr
      obtain ⟨b1, b2, M', b3, b4, sn', em, hlo, -⟩ := h_explM hT he hm8 h0 ln fn u q sn
      rw [ec, em, g_b8_s, g_b7_s]
      have hlo' : ∀ j, j < 372 → M' j = M j := fun j hj => (hlo j hj).trans (g_tries_lo hj)
      by_cases c : g_ex rF rL mem W P S len C HR m = true
      · rw [if_pos c, if_neg n10, if_neg n10]
        exact ⟨_, _, _, _, _, _, _, _, _, _, _, _, _, rfl, rfl, hlo'⟩
      · rw [if_neg c, if_pos rfl, if_pos rfl]
        exact ⟨_, _, _, _, _, _, _, _, _, _, _, _, _, rfl, rfl, hlo'⟩
    · rw [if_neg ck, if_neg ck]
      generalize hok : g_gok rF rL mem W P S len C HR m = ok
      have okg : ∀ g, g_gok rF rL mem W P S len C HR m g = ok g := fun g => congrFun hok g
      have hc := g_run (z := fun _ _ _ _ _ _ _ _ _ _ => none) (b := f_X11_otherwise_32 (nI k) (nI S) (nI P) fF fT lF lT L mems W CC C (nI m) HR) (ρ := Int32 × Int32 × Int32 × Int32 × Int32 × (Nat → Int32) × (Nat → Int32) × (Nat → Int32)) (σ := Nat × Int32 × Int32 × Int32 × (Nat → Int32) × (Nat → Int32) × (Nat → Int32)) (fun K y => K (g_ow ok (10 * y.1)).1 (g_ow ok (10 * y.1)).2 (nI y.1) y.2.1 y.2.2.1 (-1) y.2.2.2.1 y.2.2.2.2.1 y.2.2.2.2.2.1 y.2.2.2.2.2.2) (fun y => P - y.1)
        (fun y r => y.1 ≤ P → ∃ a1 a2 pm' a3 a4 a5, r = some (if nI k = 0 then (g_ow ok (10 * P)).1 else (g_ow ok (10 * P)).2, a1, a2, -1, pm', a3, a4, a5))
        (by
          rintro K ⟨p, tg, fo, pm, v, t, tr⟩ ih hp
          replace hp : p ≤ P := hp
          show ∃ a1 a2 pm' a3 a4 a5, f_X11_otherwise_32 (nI k) (nI S) (nI P) fF fT lF lT L mems W CC C (nI m) HR K (g_ow ok (10 * p)).1 (g_ow ok (10 * p)).2 (nI p) tg fo (-1) pm v t tr = _
          unfold f_X11_otherwise_32
          rcases Nat.lt_or_ge p P with hl2 | hl2
          · rw [if_neg (nI_ge hl2 (by omega))]
            have hin := g_run (z := fun _ _ _ _ _ _ _ _ _ _ => none) (b := f_X11_otherwise_47 (nI k) (nI p) (nI S) (nI P) fF fT lF lT L mems W CC C (nI m) HR (fun (x2' : Int32) (x3' : Int32) (v_t_course_taught' : Int32) (v_t_course_forgotten' : Int32) (v_t_course_pretended' : Int32) (v_t_course_pretendedMemory' : Int32) (r_t_course_reckoner_values' : Nat → Int32) (r_t_course_reckoner_stack' : Nat → Int32) (r_t_trial_row' : Nat → Int32) => f_X11_otherwise_107 (fun (x2' : Int32) (x3' : Int32) (x4' : Int32) (v_t_course_taught' : Int32) (v_t_course_forgotten' : Int32) (v_t_course_pretended' : Int32) (v_t_course_pretendedMemory' : Int32) (r_t_course_reckoner_values' : Nat → Int32) (r_t_course_reckoner_stack' : Nat → Int32) (r_t_trial_row' : Nat → Int32) => K x2' x3' x4' v_t_course_taught' v_t_course_forgotten' v_t_course_pretended' v_t_course_pretendedMemory' r_t_course_reckoner_values' r_t_course_reckoner_stack' r_t_trial_row') (nI k) x2' x3' (nI p) (nI S) (nI P) fF fT lF lT L mems W CC C (nI m) HR v_t_course_taught' v_t_course_forgotten' v_t_course_pretended' v_t_course_pretendedMemory' r_t_course_reckoner_values' r_t_course_reckoner_stack' r_t_trial_row')) (ρ := Int32 × Int32 × Int32 × Int32 × Int32 × (Nat → Int32) × (Nat → Int32) × (Nat → Int32)) (σ := Nat × Int32 × Int32 × Int32 × (Nat → Int32) × (Nat → Int32) × (Nat → Int32)) (fun K y => K (g_ow ok (10 * p + y.1)).1 (g_ow ok (10 * p + y.1)).2 (nI y.1) y.2.1 y.2.2.1 (-1) y.2.2.2.1 y.2.2.2.2.1 y.2.2.2.2.2.1 y.2.2.2.2.2.2) (fun y => 10 - y.1)
              (fun y r => y.1 ≤ 10 → ∃ a1 a2 pm' a3 a4 a5, r = some (if nI k = 0 then (g_ow ok (10 * P)).1 else (g_ow ok (10 * P)).2, a1, a2, -1, pm', a3, a4, a5))
              (by
                rintro K2 ⟨w, tg, fo, pm, v, t, tr⟩ ih2 hw
                replace hw : w ≤ 10 := hw
                show ∃ a1 a2 pm' a3 a4 a5, f_X11_otherwise_47 (nI k) (nI p) (nI S) (nI P) fF fT lF lT L mems W CC C (nI m) HR _ K2 (g_ow ok (10 * p + w)).1 (g_ow ok (10 * p + w)).2 (nI w) tg fo (-1) pm v t tr = _
                unfold f_X11_otherwise_47
                rcases Nat.lt_or_ge w 10 with hw2 | hw2
                · have q1 : (10 * p + w) / 10 = p := by omega
                  have q2 : (10 * p + w) % 10 = w := by omega
                  have h9 := (hR.2.2.2 p hl2).2
                  have oke := okg (10 * p + w)
                  unfold g_gok at oke
                  rw [q1, q2] at oke
                  have go : ∀ (tg fo pm : Int32) (v t tr : Nat → Int32), ∃ a1 a2 pm' a3 a4 a5, K2 (g_ow ok (10 * p + w + 1)).1 (g_ow ok (10 * p + w + 1)).2 (nI (w + 1)) tg fo (-1) pm v t tr = some (if nI k = 0 then (g_ow ok (10 * P)).1 else (g_ow ok (10 * P)).2, a1, a2, -1, pm', a3, a4, a5) := fun tg fo pm v t tr => ih2 (w + 1, tg, fo, pm, v, t, tr) (by show 10 - (w + 1) < 10 - w; omega) (by show w + 1 ≤ 10; omega)
                  have ew : g_ow ok (10 * p + w + 1) = if ok (10 * p + w) = true then ((g_ow ok (10 * p + w)).1 + 1, if (g_ow ok (10 * p + w)).2 = -1 then nI (10 * p + w) else (g_ow ok (10 * p + w)).2) else g_ow ok (10 * p + w) := rfl
                  rw [ew] at go
                  rw [if_neg (show ¬ (9 : Int32) < nI w from nI_nlt (a := 9) (by omega) (by omega)), gs_gd_t (gs_in_nI (by omega) (by decide)), nI_clamp (by omega), hmem p hl2, nI_1 w]
                  by_cases c1 : mem p = w
                  · have oke' : ok (10 * p + w) = false := by rw [← oke, c1]; simp
                    simp only [oke', Bool.false_eq_true, if_false] at go
                    rw [if_pos (by rw [c1])]
                    exact go _ _ _ _ _ _
                  · obtain ⟨a1, a2, a3, a4, a5, ec⟩ := k_guessC hT he hm8 hmem hR (g := 10 * p + w) (by omega) tg fo (-1) pm v t tr
                    rw [q1, q2] at ec
                    rw [if_neg (fun z => c1 ((nI_eq (by omega) (by omega)).mp z)), ec, g_b8_s]
                    by_cases c2 : g_ex rF rL (g_me mem (10 * p + w)) W P S len C HR m = true
                    · have oke' : ok (10 * p + w) = true := by rw [← oke, c2]; simp [c1]
                      simp only [oke', if_true] at go
                      rw [if_pos c2, if_neg n10]
                      by_cases c3 : (g_ow ok (10 * p + w)).2 = -1
                      · have e10 : (10 : Int32) * nI p + nI w = nI (10 * p + w) := by
                          show nI 10 * nI p + nI w = _
                          rw [pk_mul, nI_add]
                        simp only [if_pos c3] at go
                        rw [if_pos c3, e10]
                        exact go _ _ _ _ _ _
                      · simp only [if_neg c3] at go
                        rw [if_neg c3]
                        exact go _ _ _ _ _ _
                    · have oke' : ok (10 * p + w) = false := by rw [← oke, Bool.eq_false_iff.mpr c2]; simp
                      simp only [oke', Bool.false_eq_true, if_false] at go
                      rw [if_neg c2, if_pos rfl]
                      exact go _ _ _ _ _ _
                · have e : w = 10 := by omega
                  subst e
                  rw [if_pos (by decide)]
                  dsimp only
                  unfold f_X11_otherwise_107
                  rw [nI_1 p]
                  exact ih (p + 1, _, _, _, _, _, _) (by show P - (p + 1) < P - p; omega) (by show p + 1 ≤ P; omega)) gs_fuel (0, tg, fo, pm, v, t, tr) (by show 10 - 0 < gs_fuel; rw [gs_fuel_eq]; omega) (Nat.zero_le _)
            exact hin
          · have e : p = P := by omega
            subst e
            rw [if_pos (nI_le (Nat.le_refl _) (by omega))]
            by_cases e : nI k = 0
            · rw [if_pos e, if_pos e]
              exact ⟨_, _, _, _, _, _, rfl⟩
            · rw [if_neg e, if_neg e]
              exact ⟨_, _, _, _, _, _, rfl⟩) gs_fuel (0, tg, fo, pm, v, t, tr) (by show P - 0 < gs_fuel; rw [gs_fuel_eq]; omega) (Nat.zero_le _)
      have i10 : (10 : Int32) * nI P = nI (10 * P) := pk_mul 10 P
      have hmm := g_run (z := fun _ _ _ _ _ _ _ _ _ => none) (b := f_X12_otherwise_45 (nI k) 0 (nI S) (nI P) fA lA 0 (nI m) ML MW CM HM) (ρ := Int32 × Int32 × Int32 × Int32 × (Nat → Int32) × (Nat → Int32) × (Nat → Int32) × (Nat → Int32)) (σ := Nat × Int32 × Int32 × (Nat → Int32) × (Nat → Int32) × (Nat → Int32) × (Nat → Int32)) (fun K y => K (g_ow ok y.1).1 (g_ow ok y.1).2 (nI y.1) y.2.1 y.2.2.1 y.2.2.2.1 y.2.2.2.2.1 y.2.2.2.2.2.1 y.2.2.2.2.2.2) (fun y => 10 * P - y.1)
        (fun y r => y.1 ≤ 10 * P → (∀ j, j < 372 → y.2.2.2.1 j = M j) → ∃ b1 b2 M' b3 b4 sn', r = some (if nI k = 0 then (g_ow ok (10 * P)).1 else (g_ow ok (10 * P)).2, 0, b1, b2, M', b3, b4, sn') ∧ ∀ j, j < 372 → M' j = M j)
        (by
          rintro K ⟨g, ln, fn, M1, u, q, sn⟩ ih hg hM1
          replace hg : g ≤ 10 * P := hg
          replace hM1 : ∀ j, j < 372 → M1 j = M j := hM1
          show ∃ b1 b2 M' b3 b4 sn', f_X12_otherwise_45 (nI k) 0 (nI S) (nI P) fA lA 0 (nI m) ML MW CM HM K (g_ow ok g).1 (g_ow ok g).2 (nI g) ln fn M1 u q sn = _ ∧ _
          have hR1 : g_R P S D len mem C M1 0 := hR.cong hP hS (fun _ _ => rfl) (fun j hj => by rw [Nat.zero_add]; exact hM1 j hj)
          unfold f_X12_otherwise_45
          rw [i10]
          rcases Nat.lt_or_ge g (10 * P) with hl2 | hl2
          · obtain ⟨b1, b2, M', b3, b4, sn', em, hlo, -⟩ := k_guessM hT he hm8 hR1 (g := g) (by omega) ln fn u q sn
            have hlo' : ∀ j, j < 372 → M' j = M j := fun j hj => (hlo j hj).trans (hM1 j hj)
            rw [okg g] at em
            have go := fun ln fn M1 u q sn h => ih (g + 1, ln, fn, M1, u, q, sn) (by show 10 * P - (g + 1) < 10 * P - g; omega) (by show g + 1 ≤ 10 * P; omega) h
            simp only [g_ow] at go
            rw [if_neg (nI_ge hl2 (by omega)), em, g_b7_s, nI_1 g]
            by_cases c2 : ok g = true
            · simp only [c2, if_true] at go
              rw [if_pos c2, if_neg n10]
              by_cases c3 : (g_ow ok g).2 = -1
              · simp only [if_pos c3] at go
                rw [if_pos c3]
                exact go _ _ _ _ _ _ hlo'
              · simp only [if_neg c3] at go
                rw [if_neg c3]
                exact go _ _ _ _ _ _ hlo'
            · simp only [if_neg c2] at go
              rw [if_neg c2, if_pos rfl]
              exact go _ _ _ _ _ _ hlo'
          · have e : g = 10 * P := by omega
            subst e
            rw [if_pos (nI_le (Nat.le_refl _) (by omega))]
            by_cases e : nI k = 0
            · rw [if_pos e, if_pos e]
              exact ⟨_, _, _, _, _, _, rfl, hM1⟩
            · rw [if_neg e, if_neg e]
              exact ⟨_, _, _, _, _, _, rfl, hM1⟩) gs_fuel (0, ln, fn, M, u, q, sn) (by show 10 * P - 0 < gs_fuel; rw [gs_fuel_eq]; omega) (Nat.zero_le _) (fun _ _ => rfl)
      obtain ⟨a1, a2, pm', a3, a4, a5, hc⟩ := hc
      obtain ⟨b1, b2, M', b3, b4, sn', hmm, hM'⟩ := hmm
      refine ⟨(if nI k = 0 then (g_ow ok (10 * P)).1 else (g_ow ok (10 * P)).2), a1, a2, pm', a3, a4, a5, b1, b2, M', b3, b4, sn', ?_, ?_, hM'⟩
      · have hc' : gs_it (fun _ _ _ _ _ _ _ _ _ _ => none) (f_X11_otherwise_32 (nI k) (nI S) (nI P) fF fT lF lT L mems W CC C (nI m) HR) gs_fuel 0 (-1) (nI 0) tg fo (-1) pm v t tr = _ := hc
        rw [nI_0] at hc'
        rw [hc']
        rfl
      · have hm' : gs_it (fun _ _ _ _ _ _ _ _ _ => none) (f_X12_otherwise_45 (nI k) 0 (nI S) (nI P) fA lA 0 (nI m) ML MW CM HM) gs_fuel 0 (-1) (nI 0) ln fn M u q sn = _ := hmm
        rw [nI_0] at hm'
        exact hm'
  · rw [e1, e2, g_bx1_l, g_b2_s, if_pos rfl]
    exact Or.inr ⟨rfl, _, rfl⟩
end OW
