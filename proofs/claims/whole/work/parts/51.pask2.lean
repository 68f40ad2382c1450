/-! ===== pure rows: ask, the guesses ===== -/
section ASK2
variable {P S D m : Nat} {len mem : Nat → Nat} {rF rL : Option (List Nat)} {C M L Fs W CC ML MF MW CM mems HR HM : Nat → Int32} {fF fT lF lT fA lA pr pm th : Int32}
theorem o_ask (hT : g_T P S len rF rL L Fs W CC fF fT lF lT ML MF MW CM fA lA) (he : g_Ei P S len m HR HM) (hm8 : m ≤ 8) (hmem : ∀ p, p < P → mems p = nI (mem p)) (hR : g_R P S D len mem C M 0) (x tg fo pm ln fn : Int32) (v t tr u q sn sa : Nat → Int32) (gs : Nat → Int64) :
    (∃ w a1 a2 pm' a3 a4 a5 a6 b1 b2 M' b3 b4 sn' sa', f_X11_ask x (nI S) (nI P) fF fT lF lT L mems W CC C (nI m) HR tg fo (-1) pm v t tr gs = some (.inr (w, a1, a2, -1, pm', a3, a4, a5, a6)) ∧ f_X12_ask x th (nI S) (nI P) fA lA 0 ln fn (nI m) ML MW CM M u q HM sn sa = some (w, 0, b1, b2, M', b3, b4, sn', sa') ∧ ∀ j, j < 372 → M' j = M j) ∨
    (f_X11_ask x (nI S) (nI P) fF fT lF lT L mems W CC C (nI m) HR tg fo (-1) pm v t tr gs = some (.inl 1) ∧ ∃ w, f_X12_ask x th (nI S) (nI P) fA lA 0 ln fn (nI m) ML MW CM M u q HM sn sa = some (w, 1, ln, fn, M, u, q, sn, sa)) := by
  obtain ⟨hP, hS, hlen, hF, hW, -, -⟩ := id hT
  have h8 : ∀ s, s < S → len s ≤ 8 := fun s hs => (hlen s hs).2.2.2
  unfold f_X11_ask f_X12_ask
  rcases n_what2 x with ⟨k, hk, e, e1, e2⟩ | ⟨e1, e2⟩
  · subst e
    rw [e1, e2, g_bx1_r, g_b2_s, if_neg n10, l_fill (by omega), gs_b1_s]
    left
    generalize hok : g_gok rF rL mem W P S len C HR m = ok
    have okg : ∀ g, g_gok rF rL mem W P S len C HR m g = ok g := fun g => congrFun hok g
    generalize hG : (fun g p => g_gs S len (g_cS rF rL (g_me mem g) W P S len C 10) p) = G
    have gG : ∀ g p, g_gs S len (g_cS rF rL (g_me mem g) W P S len C 10) p = G g p := fun g p => congrFun (congrFun hG g) p
    have hG63 : ∀ g p, G g p < 63 := fun g p => by rw [← gG]; exact g_gs_le _ _ hS h8
    have hb63 : ∀ p n, g_bm ok (fun g => G g p) n < 2 ^ 63 := fun p n => g_bm_lt (fun g => hG63 g p) n
    generalize hcc : (fun p => g_ct (Nat.testBit (g_bm ok (fun g => G g p) (10 * P))) 64) = cc
    have ccg : ∀ p, cc p = g_ct (Nat.testBit (g_bm ok (fun g => G g p) (10 * P))) 64 := fun p => (congrFun hcc p).symm
    have hc := g_run (z := fun _ _ _ _ _ _ _ _ _ => none) (b := f_X11_ask_15 (nI k) (nI S) (nI P) fF fT lF lT L mems W CC C (nI m) HR (fun (v_t_course_taught' : Int32) (v_t_course_forgotten' : Int32) (v_t_course_pretended' : Int32) (v_t_course_pretendedMemory' : Int32) (r_t_course_reckoner_values' : Nat → Int32) (r_t_course_reckoner_stack' : Nat → Int32) (r_t_trial_row' : Nat → Int32) (r_t_gapSums' : Nat → Int64) => f_X11_ask_74 (nI k) (nI P) v_t_course_taught' v_t_course_forgotten' v_t_course_pretended' v_t_course_pretendedMemory' r_t_course_reckoner_values' r_t_course_reckoner_stack' r_t_trial_row' r_t_gapSums')) (ρ := Int32 × Int32 × Int32 × Int32 × Int32 × (Nat → Int32) × (Nat → Int32) × (Nat → Int32) × (Nat → Int64)) (σ := Nat × Int32 × Int32 × Int32 × (Nat → Int32) × (Nat → Int32) × (Nat → Int32) × (Nat → Int64)) (fun K y => K (nI y.1) y.2.1 y.2.2.1 (-1) y.2.2.2.1 y.2.2.2.2.1 y.2.2.2.2.2.1 y.2.2.2.2.2.2.1 y.2.2.2.2.2.2.2) (fun y => P - y.1)
      (fun y r => y.1 ≤ P → (∀ p, p < P → y.2.2.2.2.2.2.2 p = lN (g_bm ok (fun g => G g p) (10 * y.1))) → ∃ a1 a2 pm' a3 a4 a5 a6, r = some (if nI k = 0 then (g_agr cc P).1 else nI (g_agr cc P).2, a1, a2, -1, pm', a3, a4, a5, a6))
      (by
        rintro K ⟨p, tg, fo, pm, v, t, tr, gs⟩ ih hp hgs
        replace hp : p ≤ P := hp
        replace hgs : ∀ i, i < P → gs i = lN (g_bm ok (fun g => G g i) (10 * p)) := hgs
        show ∃ a1 a2 pm' a3 a4 a5 a6, f_X11_ask_15 (nI k) (nI S) (nI P) fF fT lF lT L mems W CC C (nI m) HR _ K (nI p) tg fo (-1) pm v t tr gs = _
        unfold f_X11_ask_15
        rcases Nat.lt_or_ge p P with hl2 | hl2
        · rw [if_neg (nI_ge hl2 (by omega))]
          have hin := g_run (z := fun _ _ _ _ _ _ _ _ _ => none) (b := f_X11_ask_28 (nI k) (nI p) (nI S) (nI P) fF fT lF lT L mems W CC C (nI m) HR (fun (v_t_course_taught' : Int32) (v_t_course_forgotten' : Int32) (v_t_course_pretended' : Int32) (v_t_course_pretendedMemory' : Int32) (r_t_course_reckoner_values' : Nat → Int32) (r_t_course_reckoner_stack' : Nat → Int32) (r_t_trial_row' : Nat → Int32) (r_t_gapSums' : Nat → Int64) => f_X11_ask_68 (fun (x2' : Int32) (v_t_course_taught' : Int32) (v_t_course_forgotten' : Int32) (v_t_course_pretended' : Int32) (v_t_course_pretendedMemory' : Int32) (r_t_course_reckoner_values' : Nat → Int32) (r_t_course_reckoner_stack' : Nat → Int32) (r_t_trial_row' : Nat → Int32) (r_t_gapSums' : Nat → Int64) => K x2' v_t_course_taught' v_t_course_forgotten' v_t_course_pretended' v_t_course_pretendedMemory' r_t_course_reckoner_values' r_t_course_reckoner_stack' r_t_trial_row' r_t_gapSums') (nI k) (nI p) (nI S) (nI P) fF fT lF lT L mems W CC C (nI m) HR v_t_course_taught' v_t_course_forgotten' v_t_course_pretended' v_t_course_pretendedMemory' r_t_course_reckoner_values' r_t_course_reckoner_stack' r_t_trial_row' r_t_gapSums')) (ρ := Int32 × Int32 × Int32 × Int32 × Int32 × (Nat → Int32) × (Nat → Int32) × (Nat → Int32) × (Nat → Int64)) (σ := Nat × Int32 × Int32 × Int32 × (Nat → Int32) × (Nat → Int32) × (Nat → Int32) × (Nat → Int64)) (fun K y => K (nI y.1) y.2.1 y.2.2.1 (-1) y.2.2.2.1 y.2.2.2.2.1 y.2.2.2.2.2.1 y.2.2.2.2.2.2.1 y.2.2.2.2.2.2.2) (fun y => 10 - y.1)
            (fun y r => y.1 ≤ 10 → (∀ i, i < P → y.2.2.2.2.2.2.2 i = lN (g_bm ok (fun g => G g i) (10 * p + y.1))) → ∃ a1 a2 pm' a3 a4 a5 a6, r = some (if nI k = 0 then (g_agr cc P).1 else nI (g_agr cc P).2, a1, a2, -1, pm', a3, a4, a5, a6))
            (by
              rintro K2 ⟨w, tg, fo, pm, v, t, tr, gs⟩ ih2 hw hgs
              replace hw : w ≤ 10 := hw
              replace hgs : ∀ i, i < P → gs i = lN (g_bm ok (fun g => G g i) (10 * p + w)) := hgs
              show ∃ a1 a2 pm' a3 a4 a5 a6, f_X11_ask_28 (nI k) (nI p) (nI S) (nI P) fF fT lF lT L mems W CC C (nI m) HR _ K2 (nI w) tg fo (-1) pm v t tr gs = _
              unfold f_X11_ask_28
              rcases Nat.lt_or_ge w 10 with hw2 | hw2
              · have q1 : (10 * p + w) / 10 = p := by omega
                have q2 : (10 * p + w) % 10 = w := by omega
                have h9 := (hR.2.2.2 p hl2).2
                have oke := okg (10 * p + w)
                unfold g_gok at oke
                rw [q1, q2] at oke
                have go : ∀ (tg fo pm : Int32) (v t tr : Nat → Int32) (gs : Nat → Int64), (∀ i, i < P → gs i = lN (g_bm ok (fun g => G g i) (10 * p + w + 1))) → ∃ a1 a2 pm' a3 a4 a5 a6, K2 (nI (w + 1)) tg fo (-1) pm v t tr gs = some (if nI k = 0 then (g_agr cc P).1 else nI (g_agr cc P).2, a1, a2, -1, pm', a3, a4, a5, a6) := fun tg fo pm v t tr gs h => ih2 (w + 1, tg, fo, pm, v, t, tr, gs) (by show 10 - (w + 1) < 10 - w; omega) (by show w + 1 ≤ 10; omega) h
                have ew : ∀ i, g_bm ok (fun g => G g i) (10 * p + w + 1) = if ok (10 * p + w) = true then g_bm ok (fun g => G g i) (10 * p + w) ||| 2 ^ G (10 * p + w) i else g_bm ok (fun g => G g i) (10 * p + w) := fun i => rfl
                rw [if_neg (show ¬ (9 : Int32) < nI w from nI_nlt (a := 9) (by omega) (by omega)), gs_gd_t (gs_in_nI (by omega) (by decide)), nI_clamp (by omega), hmem p hl2, nI_1 w]
                by_cases c1 : mem p = w
                · have oke' : ok (10 * p + w) = false := by rw [← oke, c1]; simp
                  rw [if_pos (by rw [c1])]
                  exact go _ _ _ _ _ _ _ (fun i hi => by rw [ew, if_neg (by rw [oke']; exact Bool.false_ne_true)]; exact hgs i hi)
                · obtain ⟨a1, a2, a3, a4, a5, ec⟩ := k_guessC hT he hm8 hmem hR (g := 10 * p + w) (by omega) tg fo (-1) pm v t tr
                  rw [q1, q2] at ec
                  rw [if_neg (fun z => c1 ((nI_eq (by omega) (by omega)).mp z)), ec, g_b8_s]
                  by_cases c2 : g_ex rF rL (g_me mem (10 * p + w)) W P S len C HR m = true
                  · have oke' : ok (10 * p + w) = true := by rw [← oke, c2]; simp [c1]
                    obtain ⟨d1, d2, d3, d4, d5, en⟩ := k_note hT hmem hR (g := 10 * p + w) (by omega) a1 a2 (-1) 0 a3 a4 a5 gs
                    rw [q1, q2] at en
                    rw [if_pos c2, if_neg n10, en, g_b8_s]
                    exact go _ _ _ _ _ _ _ (fun i hi => by rw [ew, if_pos oke', if_pos hi, hgs i hi, gG, l_or])
                  · have oke' : ok (10 * p + w) = false := by rw [← oke, Bool.eq_false_iff.mpr c2]; simp
                    rw [if_neg c2, if_pos rfl]
                    exact go _ _ _ _ _ _ _ (fun i hi => by rw [ew, if_neg (by rw [oke']; exact Bool.false_ne_true)]; exact hgs i hi)
              · have e : w = 10 := by omega
                subst e
                rw [if_pos (by decide)]
                try dsimp only
                unfold f_X11_ask_68
                rw [nI_1 p]
                exact ih (p + 1, _, _, _, _, _, _, _) (by show P - (p + 1) < P - p; omega) (by show p + 1 ≤ P; omega) (fun i hi => by rw [show 10 * (p + 1) = 10 * p + 10 by omega]; exact hgs i hi)) gs_fuel (0, tg, fo, pm, v, t, tr, gs) (by show 10 - 0 < gs_fuel; rw [gs_fuel_eq]; omega) (Nat.zero_le _) hgs
          exact hin
        · have e : p = P := by omega
          subst e
          rw [if_pos (nI_le (Nat.le_refl _) (by omega))]
          dsimp only
          rw [k_lastC hP (b := fun i => g_bm ok (fun g => G g i) (10 * p)) (c := cc) (fun i hi => ⟨hgs i hi, hb63 i _⟩) (fun i _ => ccg i)]
          exact ⟨_, _, _, _, _, _, _, rfl⟩) gs_fuel (0, tg, fo, pm, v, t, tr, fun j => if j < 7 then 0 else gs j) (by show P - 0 < gs_fuel; rw [gs_fuel_eq]; omega) (Nat.zero_le _) (fun i hi => by show (if i < 7 then (0 : Int64) else gs i) = lN 0; rw [if_pos (by omega)]; rfl)
    have i10 : (10 : Int32) * nI P = nI (10 * P) := pk_mul 10 P
    have hmm := g_run (z := fun _ _ _ _ _ _ _ _ _ => none) (b := f_X12_ask_20 (nI k) 0 (nI S) (nI P) fA lA 0 (nI m) ML MW CM HM (fun (x2' : Int32) (v_t_learntNow' : Int32) (v_t_forgottenNow' : Int32) (r_t_rows' : Nat → Int32) (r_t_told' : Nat → Int32) (r_t_pile' : Nat → Int32) (r_t_soon' : Nat → Int32) (r_t_soonAll' : Nat → Int32) => f_X12_ask_88 (nI k) x2' 0 (nI P) v_t_learntNow' v_t_forgottenNow' r_t_rows' r_t_told' r_t_pile' r_t_soon' r_t_soonAll')) (ρ := Int32 × Int32 × Int32 × Int32 × (Nat → Int32) × (Nat → Int32) × (Nat → Int32) × (Nat → Int32) × (Nat → Int32)) (σ := Nat × Nat × (Nat → Nat → Nat) × Int32 × Int32 × (Nat → Int32) × (Nat → Int32) × (Nat → Int32) × (Nat → Int32) × (Nat → Int32)) (fun K y => K (nI y.2.1) (nI y.1) y.2.2.2.1 y.2.2.2.2.1 y.2.2.2.2.2.1 y.2.2.2.2.2.2.1 y.2.2.2.2.2.2.2.1 y.2.2.2.2.2.2.2.2.1 y.2.2.2.2.2.2.2.2.2) (fun y => 10 * P - y.1)
      (fun y r => y.1 ≤ 10 * P → y.2.1 ≤ y.1 → (∀ a, a < y.2.1 → ∀ p, p < P → y.2.2.2.2.2.2.2.2.2 (7 * a + p) = nI (y.2.2.1 a p) ∧ y.2.2.1 a p < 64) → (∀ p, p < P → g_ms (fun a => y.2.2.1 a p) y.2.1 = g_bm ok (fun g => G g p) y.1) → (∀ j, j < 372 → y.2.2.2.2.2.1 j = M j) → ∃ b1 b2 M' b3 b4 sn' sa', r = some (if nI k = 0 then (g_agr cc P).1 else nI (g_agr cc P).2, 0, b1, b2, M', b3, b4, sn', sa') ∧ ∀ j, j < 372 → M' j = M j)
      (by
        rintro K ⟨g, n, s, ln, fn, M1, u, q, sn, sa⟩ ih hg hng hs hms hM1
        replace hg : g ≤ 10 * P := hg
        replace hng : n ≤ g := hng
        replace hs : ∀ a, a < n → ∀ p, p < P → sa (7 * a + p) = nI (s a p) ∧ s a p < 64 := hs
        replace hms : ∀ p, p < P → g_ms (fun a => s a p) n = g_bm ok (fun g => G g p) g := hms
        replace hM1 : ∀ j, j < 372 → M1 j = M j := hM1
        show ∃ b1 b2 M' b3 b4 sn' sa', f_X12_ask_20 (nI k) 0 (nI S) (nI P) fA lA 0 (nI m) ML MW CM HM _ K (nI n) (nI g) ln fn M1 u q sn sa = _ ∧ _
        have hR1 : g_R P S D len mem C M1 0 := hR.cong hP hS (fun _ _ => rfl) (fun j hj => by rw [Nat.zero_add]; exact hM1 j hj)
        unfold f_X12_ask_20
        rw [i10]
        rcases Nat.lt_or_ge g (10 * P) with hl2 | hl2
        · obtain ⟨b1, b2, M', b3, b4, sn', em, hlo, hsn⟩ := k_guessM hT he hm8 hR1 (g := g) (by omega) ln fn u q sn
          have hlo' : ∀ j, j < 372 → M' j = M j := fun j hj => (hlo j hj).trans (hM1 j hj)
          rw [okg g] at em hsn
          have ew : ∀ i, g_bm ok (fun g => G g i) (g + 1) = if ok g = true then g_bm ok (fun g => G g i) g ||| 2 ^ G g i else g_bm ok (fun g => G g i) g := fun i => rfl
          rw [if_neg (nI_ge hl2 (by omega)), em, g_b7_s]
          by_cases c2 : ok g = true
          · rw [if_pos c2, if_neg n10]
            have hcp : ∀ K79, gs_it (fun _ _ => none) (f_X12_ask_45 (nI k) (nI n) (nI g) 0 (nI S) (nI P) fA lA 0 b1 b2 (nI m) ML MW CM M' b3 b4 HM sn' K79) gs_fuel 0 sa = K79 (g_cpy sn' sa (7 * n) P) := by
              intro K79
              refine g_lb P (fun i => g_cpy sn' sa (7 * n) i) (by omega) (g_cpy_0 _ _ _) (fun K i hi => ?_) (fun K => ?_)
              · unfold f_X12_ask_45
                have i1 : (7 : Int32) * nI n + nI i = nI (7 * n + i) := by
                  show nI 7 * nI n + nI i = _
                  rw [pk_mul, nI_add]
                rw [if_neg (nI_ge hi (by omega)), gs_gd_t (gs_in_nI (by omega) (by decide)), i1, gs_gd_t (gs_in_nI (by omega) (by decide)), nI_clamp (n := 7 * n + i) (by omega), nI_clamp (n := i) (by omega), nI_1 i, g_cpy_s]
              · unfold f_X12_ask_45
                rw [if_pos (nI_le (Nat.le_refl _) (by omega))]
            rw [hcp]
            unfold f_X12_ask_79
            rw [nI_1 n, nI_1 g]
            refine ih (g + 1, n + 1, fun a p => if a = n then G g p else s a p, b1, b2, M', b3, b4, sn', g_cpy sn' sa (7 * n) P) (by show 10 * P - (g + 1) < 10 * P - g; omega) (by show g + 1 ≤ 10 * P; omega) (by show n + 1 ≤ g + 1; omega) (fun a ha p hp => ?_) (fun p hp => ?_) hlo'
            · replace ha : a < n + 1 := ha
              show g_cpy sn' sa (7 * n) P (7 * a + p) = nI (if a = n then G g p else s a p) ∧ (if a = n then G g p else s a p) < 64
              by_cases e : a = n
              · subst e
                rw [if_pos rfl, g_cpy_in (by omega) (by omega), show 7 * a + p - 7 * a = p by omega, hsn c2 p hp, gG]
                exact ⟨rfl, by have := hG63 g p; omega⟩
              · rw [if_neg e, g_cpy_out (by omega)]
                exact hs a (by omega) p hp
            · show g_ms (fun a => if a = n then G g p else s a p) (n + 1) = _
              rw [ew, if_pos c2, g_ms, ← hms p hp, if_pos rfl]
              refine congrArg (· ||| 2 ^ G g p) ?_
              have cong : ∀ (s1 s2 : Nat → Nat) (j : Nat), (∀ a, a < j → s1 a = s2 a) → g_ms s1 j = g_ms s2 j := by
                intro s1 s2 j
                induction j with
                | zero => intro _; rfl
                | succ j ihj => intro h; rw [g_ms, g_ms, ihj (fun a ha => h a (by omega)), h j (by omega)]
              exact cong _ _ _ (fun a ha => if_neg (by omega))
          · rw [if_neg c2, if_pos rfl, nI_1 g]
            exact ih (g + 1, n, s, b1, b2, M', b3, b4, sn', sa) (by show 10 * P - (g + 1) < 10 * P - g; omega) (by show g + 1 ≤ 10 * P; omega) (by show n ≤ g + 1; omega) hs (fun p hp => by show g_ms (fun a => s a p) n = _; rw [ew, if_neg c2]; exact hms p hp) hlo'
        · have e : g = 10 * P := by omega
          subst e
          rw [if_pos (nI_le (Nat.le_refl _) (by omega))]
          dsimp only
          rw [k_lastM hP (by omega) hs (c := cc) (fun p hp => by rw [ccg, ← hms p hp]; exact g_ms_ct n (fun a ha => (hs a ha p hp).2))]
          exact ⟨_, _, _, _, _, _, _, rfl, hM1⟩) gs_fuel (0, 0, fun _ _ => 0, ln, fn, M, u, q, sn, sa) (by show 10 * P - 0 < gs_fuel; rw [gs_fuel_eq]; omega) (Nat.zero_le _) (Nat.le_refl 0) (fun a ha => absurd ha (Nat.not_lt_zero _)) (fun p hp => rfl) (fun _ _ => rfl)
    obtain ⟨a1, a2, pm', a3, a4, a5, a6, hc⟩ := hc
    obtain ⟨b1, b2, M', b3, b4, sn', sa', hmm, hM'⟩ := hmm
    refine ⟨(if nI k = 0 then (g_agr cc P).1 else nI (g_agr cc P).2), a1, a2, pm', a3, a4, a5, a6, b1, b2, M', b3, b4, sn', sa', ?_, ?_, hM'⟩
    · exact (congrArg gs_rt hc)
    · exact hmm
  · rw [e1, e2, g_bx1_l, g_b2_s, if_pos rfl]
    exact Or.inr ⟨rfl, _, rfl⟩
end ASK2
