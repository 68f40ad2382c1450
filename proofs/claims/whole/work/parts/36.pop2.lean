/-! ===== pure rows: lost, learnt, most, kept, later ===== -/
section OB
variable {P S D : Nat} {len mem : Nat → Nat} {rF rL : Option (List Nat)} {C M L Fs W CC ML MF MW CM mems : Nat → Int32} {fF fT lF lT fA lA pr pm th : Int32}
theorem o_lost (hT : g_T P S len rF rL L Fs W CC fF fT lF lT ML MF MW CM fA lA) (hm : ∀ p, p < P → f_X1_memoryOf (nI p) pr pm mems = some (nI (mem p))) (hR : g_R P S D len mem C M 0) (x : Int32) (tg fo ln fn : Int32) (v t tr u q : Nat → Int32) :
    g_agW id M (f_X11_lost x (nI S) (nI P) fF fT lF lT L mems W CC C tg fo pr pm v t tr) (f_X12_lost x th (nI S) (nI P) fA lA 0 ln fn ML MW CM M u q) := by
  obtain ⟨hP, hS, hlen, hF, hW, -, -⟩ := id hT
  unfold f_X11_lost f_X12_lost
  rcases n_song hS x with ⟨s, hs, e⟩ | ⟨e1, e2⟩
  · subst e
    have hl := hlen s hs
    have h0 := hR.tries (tr := tr) hP hS
    rw [(n_song_t hs hS).1, (n_song_t hs hS).2, g_bx1_r, g_b2_s, if_neg n10, g_copyRow, gs_b1_s, m_tries, gs_b1_s]
    have hc := g_run (z := fun _ _ _ _ _ _ => none) (b := f_X11_lost_18 (nI s) (nI S) (nI P) fF fT lF lT L mems W CC pr pm) (ρ := Int32 × Int32 × Int32 × (Nat → Int32) × (Nat → Int32) × (Nat → Int32)) (σ := Nat × Int32 × Int32 × (Nat → Int32) × (Nat → Int32)) (fun K y => K (nI y.1) y.2.1 y.2.2.1 y.2.2.2.1 y.2.2.2.2 (g_cS rF rL mem W P S len (g_cpy C tr 0 78) y.1)) (fun y => 101 - y.1)
      (fun y r => y.1 ≤ 101 → ∃ a1 a2 a3 a4 a5, r = some (g_oi (g_ff (fun i => g_mk (fun p => g_H (g_cS rF rL mem W P S len (g_cpy C tr 0 78) i) p s) P == 0) (101 - y.1) y.1), a1, a2, a3, a4, a5))
      (by
        rintro K ⟨i, tg, fo, v, t⟩ ih hi
        replace hi : i ≤ 101 := hi
        show ∃ a1 a2 a3 a4 a5, f_X11_lost_18 (nI s) (nI S) (nI P) fF fT lF lT L mems W CC pr pm K (nI i) tg fo v t (g_cS rF rL mem W P S len (g_cpy C tr 0 78) i) = some (g_oi (g_ff _ (101 - i) i), a1, a2, a3, a4, a5)
        unfold f_X11_lost_18
        rcases Nat.lt_or_ge i 101 with hl2 | hl2
        · obtain ⟨k, hk⟩ : ∃ k, 101 - i = k + 1 := ⟨101 - i - 1, by omega⟩
          have hk' : 101 - (i + 1) = k := by omega
          rw [if_neg (show ¬ (100 : Int32) < nI i from nI_nlt (a := 100) (by omega) (by omega)), g_singers (by omega) hP, gs_b1_s, hk, g_ff]
          by_cases e : g_mk (fun p => g_H (g_cS rF rL mem W P S len (g_cpy C tr 0 78) i) p s) P = 0
          · rw [if_pos ((m_mk0 (by omega)).mpr e), if_pos (by simp [e])]
            exact ⟨_, _, _, _, _, rfl⟩
          · obtain ⟨v1, t1, e1⟩ := s_C hT hm h0 i tg fo v t
            rw [if_neg (fun z => e ((m_mk0 (by omega)).mp z)), if_neg (by simp [e]), e1, g_b5_s, nI_1 i, ← hk']
            exact ih (i + 1, _, _, v1, t1) (by show 101 - (i + 1) < 101 - i; omega) (by show i + 1 ≤ 101; omega)
        · have e : i = 101 := by omega
          subst e
          rw [if_pos (by decide), Nat.sub_self]
          exact ⟨_, _, _, _, _, rfl⟩) gs_fuel (0, tg, fo, v, t) (by show 101 - 0 < gs_fuel; rw [gs_fuel_eq]; omega) (Nat.zero_le _)
    have hmm := g_run (z := fun _ _ _ _ _ _ => none) (b := f_X12_lost_21 (nI s) 0 (nI S) (nI P) fA lA 0 ML MW CM) (ρ := Int32 × Int32 × Int32 × Int32 × (Nat → Int32) × (Nat → Int32) × (Nat → Int32)) (σ := Nat × Int32 × Int32 × (Nat → Int32) × (Nat → Int32)) (fun K y => K (nI y.1) y.2.1 y.2.2.1 (m_S rF rL MW P S len 372 (g_cpy M M 372 372) y.1) y.2.2.2.1 y.2.2.2.2) (fun y => 101 - y.1)
      (fun y r => y.1 ≤ 101 → ∃ b1 b2 n b4 b5, r = some (g_oi (g_ff (fun i => g_mk (fun p => m_H (m_S rF rL MW P S len 372 (g_cpy M M 372 372) i) 372 p s) P == 0) (101 - y.1) y.1), 0, b1, b2, m_S rF rL MW P S len 372 (g_cpy M M 372 372) n, b4, b5))
      (by
        rintro K ⟨i, ln, fn, u, q⟩ ih hi
        replace hi : i ≤ 101 := hi
        show ∃ b1 b2 n b4 b5, f_X12_lost_21 (nI s) 0 (nI S) (nI P) fA lA 0 ML MW CM K (nI i) ln fn (m_S rF rL MW P S len 372 (g_cpy M M 372 372) i) u q = some (g_oi (g_ff _ (101 - i) i), 0, b1, b2, _, b4, b5)
        unfold f_X12_lost_21
        rcases Nat.lt_or_ge i 101 with hl2 | hl2
        · obtain ⟨k, hk⟩ : ∃ k, 101 - i = k + 1 := ⟨101 - i - 1, by omega⟩
          have hk' : 101 - (i + 1) = k := by omega
          have e3 : f_X12_whoHave 372 (nI s) (nI P) (m_S rF rL MW P S len 372 (g_cpy M M 372 372) i) = some (nI (g_mk (fun p => m_H (m_S rF rL MW P S len 372 (g_cpy M M 372 372) i) 372 p s) P)) := m_whoHave (b := 372) (by omega) (by omega) hP
          rw [if_neg (show ¬ (100 : Int32) < nI i from nI_nlt (a := 100) (by omega) (by omega)), e3, gs_b1_s, hk, g_ff]
          by_cases e : g_mk (fun p => m_H (m_S rF rL MW P S len 372 (g_cpy M M 372 372) i) 372 p s) P = 0
          · rw [if_pos ((m_mk0 (by omega)).mpr e), if_pos (by simp [e])]
            exact ⟨_, _, i, _, _, rfl⟩
          · obtain ⟨u1, q1, e1⟩ := s_M hT (Nat.le_refl 372) h0 i ln fn u q
            rw [if_neg (fun z => e ((m_mk0 (by omega)).mp z)), if_neg (by simp [e]), show f_X12_dayGoes 372 (nI S) (nI P) fA lA 0 ln fn ML MW CM (m_S rF rL MW P S len 372 (g_cpy M M 372 372) i) u q = _ from e1, g_b5_s, nI_1 i, ← hk']
            exact ih (i + 1, _, _, u1, q1) (by show 101 - (i + 1) < 101 - i; omega) (by show i + 1 ≤ 101; omega)
        · have e : i = 101 := by omega
          subst e
          rw [if_pos (by decide), Nat.sub_self]
          exact ⟨_, _, 101, _, _, rfl⟩) gs_fuel (0, ln, fn, u, q) (by show 101 - 0 < gs_fuel; rw [gs_fuel_eq]; omega) (Nat.zero_le _)
    obtain ⟨a1, a2, a3, a4, a5, hc⟩ := hc
    obtain ⟨b1, b2, n, b4, b5, hmm⟩ := hmm
    have hc' : gs_it (fun _ _ _ _ _ _ => none) (f_X11_lost_18 (nI s) (nI S) (nI P) fF fT lF lT L mems W CC pr pm) gs_fuel (nI 0) tg fo v t (g_cpy C tr 0 78) = _ := hc
    have hm' : gs_it (fun _ _ _ _ _ _ => none) (f_X12_lost_21 (nI s) 0 (nI S) (nI P) fA lA 0 ML MW CM) gs_fuel (nI 0) ln fn (g_cpy M M 372 372) u q = _ := hmm
    rw [nI_0] at hc' hm'
    rw [hc', hm', g_ff_cong (g := fun i => g_mk (fun p => g_H (g_cS rF rL mem W P S len (g_cpy C tr 0 78) i) p s) P == 0) (h := fun i => g_mk (fun p => m_H (m_S rF rL MW P S len 372 (g_cpy M M 372 372) i) 372 p s) P == 0) _ _ (fun i _ _ => by rw [v_who (s_rel hT hR tr i).1 hs])]
    exact Or.inl ⟨_, _, _, _, _, _, _, _, _, _, _, rfl, rfl, (s_rel hT hR tr n).2⟩
  · rw [e1, e2, g_bx1_l, g_b2_s, if_pos rfl]
    exact g_agW.no (Or.inl rfl) rfl
theorem o_learnt (hT : g_T P S len rF rL L Fs W CC fF fT lF lT ML MF MW CM fA lA) (hm : ∀ p, p < P → f_X1_memoryOf (nI p) pr pm mems = some (nI (mem p))) (hR : g_R P S D len mem C M 0) (x y : Int32) (tg fo ln fn : Int32) (v t tr u q : Nat → Int32) :
    g_agW id M (f_X11_learnt x y (nI S) (nI P) fF fT lF lT L mems W CC C tg fo pr pm v t tr) (f_X12_learnt x y th (nI S) (nI P) fA lA 0 ln fn ML MW CM M u q) := by
  obtain ⟨hP, hS, hlen, hF, hW, -, -⟩ := id hT
  unfold f_X11_learnt f_X12_learnt
  rcases n_person hP x with ⟨p, hp, e⟩ | ⟨e1, e2⟩
  · subst e
    rw [(n_person_t hp hP).1, (n_person_t hp hP).2, g_bx1_r, g_b2_s, if_neg n10]
    rcases n_song hS y with ⟨s, hs, e⟩ | ⟨e1, e2⟩
    · subst e
      have hl := hlen s hs
      have h0 := hR.tries (tr := tr) hP hS
      rw [(n_song_t hs hS).1, (n_song_t hs hS).2, g_bx1_r, g_b2_s, if_neg n10, g_copyRow, gs_b1_s, m_tries, gs_b1_s]
      have hc := g_run (z := fun _ _ _ _ _ _ => none) (b := f_X11_learnt_23 (nI p) (nI s) (nI S) (nI P) fF fT lF lT L mems W CC pr pm) (ρ := Int32 × Int32 × Int32 × (Nat → Int32) × (Nat → Int32) × (Nat → Int32)) (σ := Nat × Int32 × Int32 × (Nat → Int32) × (Nat → Int32)) (fun K y => K (nI y.1) y.2.1 y.2.2.1 y.2.2.2.1 y.2.2.2.2 (g_cS rF rL mem W P S len (g_cpy C tr 0 78) y.1)) (fun y => 101 - y.1)
        (fun y r => y.1 ≤ 101 → ∃ a1 a2 a3 a4 a5, r = some (g_oi (g_ff (fun i => g_H (g_cS rF rL mem W P S len (g_cpy C tr 0 78) i) p s) (101 - y.1) y.1), a1, a2, a3, a4, a5))
        (by
          rintro K ⟨i, tg, fo, v, t⟩ ih hi
          replace hi : i ≤ 101 := hi
          show ∃ a1 a2 a3 a4 a5, f_X11_learnt_23 (nI p) (nI s) (nI S) (nI P) fF fT lF lT L mems W CC pr pm K (nI i) tg fo v t (g_cS rF rL mem W P S len (g_cpy C tr 0 78) i) = some (g_oi (g_ff _ (101 - i) i), a1, a2, a3, a4, a5)
          unfold f_X11_learnt_23
          rcases Nat.lt_or_ge i 101 with hl2 | hl2
          · obtain ⟨k, hk⟩ : ∃ k, 101 - i = k + 1 := ⟨101 - i - 1, by omega⟩
            have hk' : 101 - (i + 1) = k := by omega
            rw [if_neg (show ¬ (100 : Int32) < nI i from nI_nlt (a := 100) (by omega) (by omega)), g_holdsB (by omega) (by omega), gs_b1_s, hk, g_ff]
            by_cases e : g_H (g_cS rF rL mem W P S len (g_cpy C tr 0 78) i) p s = true
            · rw [if_pos e, if_neg n10, if_pos e]
              exact ⟨_, _, _, _, _, rfl⟩
            · obtain ⟨v1, t1, e1⟩ := s_C hT hm h0 i tg fo v t
              rw [if_neg e, if_pos rfl, if_neg e, e1, g_b5_s, nI_1 i, ← hk']
              exact ih (i + 1, _, _, v1, t1) (by show 101 - (i + 1) < 101 - i; omega) (by show i + 1 ≤ 101; omega)
          · have e : i = 101 := by omega
            subst e
            rw [if_pos (by decide), Nat.sub_self]
            exact ⟨_, _, _, _, _, rfl⟩) gs_fuel (0, tg, fo, v, t) (by show 101 - 0 < gs_fuel; rw [gs_fuel_eq]; omega) (Nat.zero_le _)
      have hmm := g_run (z := fun _ _ _ _ _ _ => none) (b := f_X12_learnt_29 (nI p) (nI s) 0 (nI S) (nI P) fA lA 0 ML MW CM) (ρ := Int32 × Int32 × Int32 × Int32 × (Nat → Int32) × (Nat → Int32) × (Nat → Int32)) (σ := Nat × Int32 × Int32 × (Nat → Int32) × (Nat → Int32)) (fun K y => K (nI y.1) y.2.1 y.2.2.1 (m_S rF rL MW P S len 372 (g_cpy M M 372 372) y.1) y.2.2.2.1 y.2.2.2.2) (fun y => 101 - y.1)
        (fun y r => y.1 ≤ 101 → ∃ b1 b2 n b4 b5, r = some (g_oi (g_ff (fun i => m_H (m_S rF rL MW P S len 372 (g_cpy M M 372 372) i) 372 p s) (101 - y.1) y.1), 0, b1, b2, m_S rF rL MW P S len 372 (g_cpy M M 372 372) n, b4, b5))
        (by
          rintro K ⟨i, ln, fn, u, q⟩ ih hi
          replace hi : i ≤ 101 := hi
          show ∃ b1 b2 n b4 b5, f_X12_learnt_29 (nI p) (nI s) 0 (nI S) (nI P) fA lA 0 ML MW CM K (nI i) ln fn (m_S rF rL MW P S len 372 (g_cpy M M 372 372) i) u q = some (g_oi (g_ff _ (101 - i) i), 0, b1, b2, _, b4, b5)
          unfold f_X12_learnt_29
          rcases Nat.lt_or_ge i 101 with hl2 | hl2
          · obtain ⟨k, hk⟩ : ∃ k, 101 - i = k + 1 := ⟨101 - i - 1, by omega⟩
            have hk' : 101 - (i + 1) = k := by omega
            have e3 : f_X12_doesHave 372 (nI p) (nI s) (m_S rF rL MW P S len 372 (g_cpy M M 372 372) i) = some (if m_H (m_S rF rL MW P S len 372 (g_cpy M M 372 372) i) 372 p s = true then 1 else 0) := m_has (b := 372) (by omega) (by omega) (by omega) _
            rw [if_neg (show ¬ (100 : Int32) < nI i from nI_nlt (a := 100) (by omega) (by omega)), e3, gs_b1_s, hk, g_ff]
            by_cases e : m_H (m_S rF rL MW P S len 372 (g_cpy M M 372 372) i) 372 p s = true
            · rw [if_pos e, if_neg n10, if_pos e]
              exact ⟨_, _, i, _, _, rfl⟩
            · obtain ⟨u1, q1, e1⟩ := s_M hT (Nat.le_refl 372) h0 i ln fn u q
              rw [if_neg e, if_pos rfl, if_neg e, show f_X12_dayGoes 372 (nI S) (nI P) fA lA 0 ln fn ML MW CM (m_S rF rL MW P S len 372 (g_cpy M M 372 372) i) u q = _ from e1, g_b5_s, nI_1 i, ← hk']
              exact ih (i + 1, _, _, u1, q1) (by show 101 - (i + 1) < 101 - i; omega) (by show i + 1 ≤ 101; omega)
          · have e : i = 101 := by omega
            subst e
            rw [if_pos (by decide), Nat.sub_self]
            exact ⟨_, _, 101, _, _, rfl⟩) gs_fuel (0, ln, fn, u, q) (by show 101 - 0 < gs_fuel; rw [gs_fuel_eq]; omega) (Nat.zero_le _)
      obtain ⟨a1, a2, a3, a4, a5, hc⟩ := hc
      obtain ⟨b1, b2, n, b4, b5, hmm⟩ := hmm
      have hc' : gs_it (fun _ _ _ _ _ _ => none) (f_X11_learnt_23 (nI p) (nI s) (nI S) (nI P) fF fT lF lT L mems W CC pr pm) gs_fuel (nI 0) tg fo v t (g_cpy C tr 0 78) = _ := hc
      have hm' : gs_it (fun _ _ _ _ _ _ => none) (f_X12_learnt_29 (nI p) (nI s) 0 (nI S) (nI P) fA lA 0 ML MW CM) gs_fuel (nI 0) ln fn (g_cpy M M 372 372) u q = _ := hmm
      rw [nI_0] at hc' hm'
      rw [hc', hm', g_ff_cong (g := fun i => g_H (g_cS rF rL mem W P S len (g_cpy C tr 0 78) i) p s) (h := fun i => m_H (m_S rF rL MW P S len 372 (g_cpy M M 372 372) i) 372 p s) _ _ (fun i _ _ => v_H (s_rel hT hR tr i).1 hp hs)]
      exact Or.inl ⟨_, _, _, _, _, _, _, _, _, _, _, rfl, rfl, (s_rel hT hR tr n).2⟩
    · rw [e1, e2, g_bx1_l, g_b2_s, if_pos rfl]
      exact g_agW.no (Or.inl rfl) rfl
  · rw [e1, e2, g_bx1_l, g_b2_s, if_pos rfl]
    exact g_agW.no (Or.inl rfl) rfl
def g_sc (C : Nat → Int32) (S p : Nat) : Nat := g_ct (fun s => g_H C p s) S
def g_nV (c : Nat → Nat) : Option Nat → Int32
  | none => -1
  | some w => nI (c w)
theorem o_most (hT : g_T P S len rF rL L Fs W CC fF fT lF lT ML MF MW CM fA lA) (hm : ∀ p, p < P → f_X1_memoryOf (nI p) pr pm mems = some (nI (mem p))) (hR : g_R P S D len mem C M 0) (x : Int32) (tg fo ln fn : Int32) (v t tr u q : Nat → Int32) :
    g_agW (fun _ => 1) M (f_X11_most x (nI S) (nI P) fF fT lF lT L mems W CC C tg fo pr pm v t tr) (f_X12_most x th (nI S) (nI P) fA lA 0 ln fn ML MW CM M u q) := by
  obtain ⟨hP, hS, hlen, hF, hW, -, -⟩ := id hT
  unfold f_X11_most f_X12_most
  rcases n_days x with ⟨n, hn, e, e1, -, e2⟩ | ⟨e1, -, e2⟩
  · subst e
    obtain ⟨v', t', c1⟩ := s_foresee hT hm hR (n := n) (by omega) tg fo v t tr
    obtain ⟨l', f', u', q', m1⟩ := s_goesTo hT hR (n := n) (by omega) ln fn u q
    obtain ⟨hr, hlo⟩ := s_rel hT hR tr n
    rw [e1, e2, g_bx1_r, g_b2_s, if_neg n10, c1, m1, g_b5_s, g_b5_s]
    generalize g_cS rF rL mem W P S len (g_cpy C tr 0 78) n = C1 at hr ⊢
    generalize m_S rF rL MW P S len 372 (g_cpy M M 372 372) n = M1 at hr hlo ⊢
    generalize nI (g_cT rF rL mem W P S len (g_cpy C tr 0 78) n) = a1
    generalize nI (g_cG rF rL mem W P S len (g_cpy C tr 0 78) n) = a2
    have hsc : ∀ p, g_sc C1 S p ≤ 5 := fun p => by
      have := g_ct_le (fun s => g_H C1 p s) S
      unfold g_sc
      omega
    have hc : gs_it (fun _ _ _ => none) (f_X11_most_16 (nI S) (nI P) a1 a2 v' t' C1) gs_fuel (-1) (-1) 0 = some (g_oi (g_near (fun p => 5 - g_sc C1 S p) (fun _ => true) P), a1, a2, v', t', C1) := by
      refine g_la2 P (fun i => g_oi (g_near (fun p => 5 - g_sc C1 S p) (fun _ => true) i)) (fun i => g_nV (g_sc C1 S) (g_near (fun p => 5 - g_sc C1 S p) (fun _ => true) i)) (by omega) rfl rfl (fun K i hi => ?_) (fun K => ?_)
      · unfold f_X11_most_16
        have h1 := hsc i
        rw [if_neg (nI_ge hi (by omega)), g_songsOf (by omega) hS, gs_b1_s, g_bc _ (by omega), gs_b1_s, nI_1 i, g_near_t (U := fun p => 5 - g_sc C1 S p) (H := fun _ => true) (i := i) rfl]
        cases hn : g_near (fun p => 5 - g_sc C1 S p) (fun _ => true) i with
        | none =>
          show (if nI (g_sc C1 S i) ≤ -1 then _ else _) = _
          rw [if_neg (g_m1_le (by omega))]
          rfl
        | some w =>
          have hw := g_near_lt _ _ _ _ hn
          have h2 := hsc w
          show (if nI (g_sc C1 S i) ≤ nI (g_sc C1 S w) then _ else _) = K (g_oi (if 5 - g_sc C1 S w ≤ 5 - g_sc C1 S i then some w else some i)) (g_nV (g_sc C1 S) (if 5 - g_sc C1 S w ≤ 5 - g_sc C1 S i then some w else some i)) _
          by_cases z : g_sc C1 S i ≤ g_sc C1 S w
          · rw [if_pos (nI_le z (by omega)), if_pos (by omega)]
          · rw [if_neg (nI_ge (by omega) (by omega)), if_neg (by omega)]
            rfl
      · unfold f_X11_most_16
        exact if_pos (nI_le (Nat.le_refl _) (by omega))
    have hmm : gs_it (fun _ _ => none) (f_X12_most_26 0 (nI S) (nI P) l' f' M1 u' q') gs_fuel (-1) 0 = some (g_oi (g_near (fun p => 5 - g_sc C1 S p) (fun _ => true) P), 0, l', f', M1, u', q') := by
      have hso : ∀ p, p < P → f_X12_songsOf 372 (nI p) (nI S) M1 = some (nI (g_mk (fun s => m_H M1 372 p s) S)) := fun p hp => m_songsOf (b := 372) (by omega) (by omega) hS
      have hbt : ∀ p, p < P → f_X12_bits (nI (g_mk (fun s => m_H M1 372 p s) S)) = some (nI (g_sc C1 S p)) := fun p hp => by
        rw [g_bits _ (by omega)]
        unfold g_sc
        rw [g_ct_cong (g := fun s => g_H C1 p s) (h := fun s => m_H M1 372 p s) (fun s hs => v_H hr hp hs)]
      refine g_la P (fun i => g_oi (g_near (fun p => 5 - g_sc C1 S p) (fun _ => true) i)) (by omega) rfl (fun K i hi => ?_) (fun K => ?_)
      · unfold f_X12_most_26
        have h1 := hsc i
        rw [if_neg (nI_ge hi (by omega)), nI_1 i, g_near_t (U := fun p => 5 - g_sc C1 S p) (H := fun _ => true) (i := i) rfl]
        cases hn : g_near (fun p => 5 - g_sc C1 S p) (fun _ => true) i with
        | none => exact if_pos rfl
        | some w =>
          have hw := g_near_lt _ _ _ _ hn
          have h2 := hsc w
          show (if nI w = -1 then _ else gs_b1 _ fun r6 => gs_b1 (f_X12_bits r6) fun r7 => gs_b1 (f_X12_songsOf 372 (nI w) (nI S) M1) fun r8 => gs_b1 (f_X12_bits r8) fun r9 => if r7 ≤ r9 then K (nI w) (nI (i + 1)) else K (nI i) (nI (i + 1))) = K (g_oi (if 5 - g_sc C1 S w ≤ 5 - g_sc C1 S i then some w else some i)) _
          rw [if_neg (g_m1 (by omega)), hso i hi, gs_b1_s, hbt i hi, gs_b1_s, hso w (by omega), gs_b1_s, hbt w (by omega), gs_b1_s]
          by_cases z : g_sc C1 S i ≤ g_sc C1 S w
          · rw [if_pos (nI_le z (by omega)), if_pos (by omega)]
            rfl
          · rw [if_neg (nI_ge (by omega) (by omega)), if_neg (by omega)]
            rfl
      · unfold f_X12_most_26
        exact if_pos (nI_le (Nat.le_refl _) (by omega))
    rw [hc, hmm]
    exact Or.inl ⟨_, _, _, _, _, _, _, _, _, _, _, rfl, rfl, hlo⟩
  · rw [e1, e2, g_bx1_l, g_b2_s, if_pos rfl]
    exact g_agW.no (Or.inr rfl) rfl
/-! rarest -/
def g_nW (c : Nat → Nat) : Option Nat → Int32
  | none => 8
  | some w => nI (c w)
theorem v_rarestC {C1 : Nat → Int32} (hP : P ≤ 7) (hS : S ≤ 5) : f_X10_rarestSong (nI S) (nI P) C1 = some (g_oi (g_near (fun s => g_ct (fun p => g_H C1 p s) P) (fun s => !(g_ct (fun p => g_H C1 p s) P == 0)) S)) := by
  have hsc : ∀ s, g_ct (fun p => g_H C1 p s) P ≤ 7 := fun s => by
    have := g_ct_le (fun p => g_H C1 p s) P
    omega
  unfold f_X10_rarestSong
  refine g_la2 S (fun i => g_oi (g_near (fun s => g_ct (fun p => g_H C1 p s) P) (fun s => !(g_ct (fun p => g_H C1 p s) P == 0)) i)) (fun i => g_nW (fun s => g_ct (fun p => g_H C1 p s) P) (g_near (fun s => g_ct (fun p => g_H C1 p s) P) (fun s => !(g_ct (fun p => g_H C1 p s) P == 0)) i)) (by omega) rfl rfl (fun K i hi => ?_) (fun K => ?_)
  · unfold f_X10_rarestSong_8
    have h1 := hsc i
    rw [if_neg (nI_ge hi (by omega)), g_singers (by omega) hP, gs_b1_s, g_bc _ (by omega), gs_b1_s, nI_1 i]
    by_cases z : g_ct (fun p => g_H C1 p i) P = 0
    · rw [if_pos (by rw [z]; decide), g_near_f (U := fun s => g_ct (fun p => g_H C1 p s) P) (H := fun s => !(g_ct (fun p => g_H C1 p s) P == 0)) (i := i) (by simp [z])]
    · rw [if_neg (nI_nle (by omega) (by omega)), g_near_t (U := fun s => g_ct (fun p => g_H C1 p s) P) (H := fun s => !(g_ct (fun p => g_H C1 p s) P == 0)) (i := i) (by simp [z])]
      cases hn : g_near (fun s => g_ct (fun p => g_H C1 p s) P) (fun s => !(g_ct (fun p => g_H C1 p s) P == 0)) i with
      | none =>
        show (if (8 : Int32) ≤ nI (g_ct (fun p => g_H C1 p i) P) then _ else _) = _
        rw [if_neg (show ¬ (8 : Int32) ≤ nI (g_ct (fun p => g_H C1 p i) P) from nI_ge (b := 8) (by omega) (by omega))]
        rfl
      | some w =>
        have h2 := hsc w
        show (if nI (g_ct (fun p => g_H C1 p w) P) ≤ nI (g_ct (fun p => g_H C1 p i) P) then _ else _) = K (g_oi (if g_ct (fun p => g_H C1 p w) P ≤ g_ct (fun p => g_H C1 p i) P then some w else some i)) (g_nW (fun s => g_ct (fun p => g_H C1 p s) P) (if g_ct (fun p => g_H C1 p w) P ≤ g_ct (fun p => g_H C1 p i) P then some w else some i)) _
        by_cases y : g_ct (fun p => g_H C1 p w) P ≤ g_ct (fun p => g_H C1 p i) P
        · rw [if_pos (nI_le y (by omega)), if_pos y]
        · rw [if_neg (nI_ge (by omega) (by omega)), if_neg y]
          rfl
  · unfold f_X10_rarestSong_8
    exact if_pos (nI_le (Nat.le_refl _) (by omega))
theorem o_later (hT : g_T P S len rF rL L Fs W CC fF fT lF lT ML MF MW CM fA lA) (hm : ∀ p, p < P → f_X1_memoryOf (nI p) pr pm mems = some (nI (mem p))) (hR : g_R P S D len mem C M 0) (x y : Int32) (tg fo ln fn : Int32) (v t tr u q : Nat → Int32) :
    g_agW id M (f_X11_later x y (nI S) (nI P) fF fT lF lT L mems W CC C tg fo pr pm v t tr) (f_X12_later x y th (nI S) (nI P) fA lA 0 ln fn ML MW CM M u q) := by
  obtain ⟨hP, hS, hlen, hF, hW, -, -⟩ := id hT
  unfold f_X11_later f_X12_later
  rcases n_what3 y with ⟨k, hk, e, e1, e2⟩ | ⟨e1, e2⟩
  · subst e
    rw [e1, e2, g_bx1_r, g_b2_s, if_neg n10]
    rcases n_days x with ⟨n, hn, e, e1, e2, -⟩ | ⟨e1, e2, -⟩
    · subst e
      have h0 := hR.tries (tr := tr) hP hS
      obtain ⟨v', t', c1⟩ := s_foresee hT hm hR (n := n) (by omega) tg fo v t tr
      rw [e1, e2, g_bx1_r, g_b2_s, if_neg n10, c1, g_b5_s, m_tries, gs_b1_s]
      have hmm := g_run (z := fun _ _ _ _ _ _ _ _ => none) (b := f_X12_later_38 (nI n) (nI k) 0 (nI S) (nI P) fA lA 0 ML MW CM (fun (x3' : Int32) (x4' : Int32) (v_t_learntNow' : Int32) (v_t_forgottenNow' : Int32) (r_t_rows' : Nat → Int32) (r_t_told' : Nat → Int32) (r_t_pile' : Nat → Int32) => f_X12_later_73 (nI k) x3' x4' 0 (nI S) (nI P) v_t_learntNow' v_t_forgottenNow' r_t_rows' r_t_told' r_t_pile')) (ρ := Int32 × Int32 × Int32 × Int32 × (Nat → Int32) × (Nat → Int32) × (Nat → Int32)) (σ := Nat × Int32 × Int32 × (Nat → Int32) × (Nat → Int32)) (fun K y => K (nI (g_cT rF rL mem W P S len (g_cpy C tr 0 78) y.1)) (nI (g_cG rF rL mem W P S len (g_cpy C tr 0 78) y.1)) (nI y.1) y.2.1 y.2.2.1 (m_S rF rL MW P S len 372 (g_cpy M M 372 372) y.1) y.2.2.2.1 y.2.2.2.2) (fun y => n - y.1)
        (fun y r => y.1 ≤ n → ∃ b1 b2 b4 b5, r = f_X12_later_73 (nI k) (nI (g_cT rF rL mem W P S len (g_cpy C tr 0 78) n)) (nI (g_cG rF rL mem W P S len (g_cpy C tr 0 78) n)) 0 (nI S) (nI P) b1 b2 (m_S rF rL MW P S len 372 (g_cpy M M 372 372) n) b4 b5)
        (by
          rintro K ⟨i, ln, fn, u, q⟩ ih hi
          replace hi : i ≤ n := hi
          show ∃ b1 b2 b4 b5, f_X12_later_38 (nI n) (nI k) 0 (nI S) (nI P) fA lA 0 ML MW CM _ K (nI (g_cT rF rL mem W P S len (g_cpy C tr 0 78) i)) (nI (g_cG rF rL mem W P S len (g_cpy C tr 0 78) i)) (nI i) ln fn (m_S rF rL MW P S len 372 (g_cpy M M 372 372) i) u q = _
          unfold f_X12_later_38
          rcases Nat.lt_or_ge i n with hl2 | hl2
          · obtain ⟨u1, q1, e1⟩ := s_M hT (Nat.le_refl 372) h0 i ln fn u q
            rw [if_neg (nI_ge hl2 (by omega)), show f_X12_dayGoes 372 (nI S) (nI P) fA lA 0 ln fn ML MW CM (m_S rF rL MW P S len 372 (g_cpy M M 372 372) i) u q = _ from e1, g_b5_s, nI_1 i, nI_add, nI_add]
            exact ih (i + 1, _, _, u1, q1) (by show n - (i + 1) < n - i; omega) (by show i + 1 ≤ n; omega)
          · have e : i = n := by omega
            subst e
            rw [if_pos (nI_le (Nat.le_refl _) (by omega))]
            exact ⟨ln, fn, u, q, rfl⟩) gs_fuel (0, ln, fn, u, q) (by show n - 0 < gs_fuel; rw [gs_fuel_eq]; omega) (Nat.zero_le _)
      obtain ⟨b1, b2, b4, b5, hmm⟩ := hmm
      have hm' : gs_it (fun _ _ _ _ _ _ _ _ => none) (f_X12_later_38 (nI n) (nI k) 0 (nI S) (nI P) fA lA 0 ML MW CM (fun (x3' : Int32) (x4' : Int32) (v_t_learntNow' : Int32) (v_t_forgottenNow' : Int32) (r_t_rows' : Nat → Int32) (r_t_told' : Nat → Int32) (r_t_pile' : Nat → Int32) => f_X12_later_73 (nI k) x3' x4' 0 (nI S) (nI P) v_t_learntNow' v_t_forgottenNow' r_t_rows' r_t_told' r_t_pile')) gs_fuel (nI 0) (nI 0) (nI 0) ln fn (g_cpy M M 372 372) u q = _ := hmm
      rw [nI_0] at hm'
      rw [hm']
      obtain ⟨hr, hlo⟩ := s_rel hT hR tr n
      generalize g_cS rF rL mem W P S len (g_cpy C tr 0 78) n = C1 at hr ⊢
      generalize m_S rF rL MW P S len 372 (g_cpy M M 372 372) n = M1 at hr hlo ⊢
      generalize nI (g_cT rF rL mem W P S len (g_cpy C tr 0 78) n) = a1
      generalize nI (g_cG rF rL mem W P S len (g_cpy C tr 0 78) n) = a2
      have hsc : ∀ s, g_ct (fun p => g_H C1 p s) P ≤ 7 := fun s => by
        have := g_ct_le (fun p => g_H C1 p s) P
        omega
      have hwh : ∀ s, s < S → f_X12_whoHave 372 (nI s) (nI P) M1 = some (nI (g_mk (fun p => m_H M1 372 p s) P)) := fun s hs => m_whoHave (b := 372) (by omega) (by omega) hP
      have hbt : ∀ s, s < S → f_X12_bits (nI (g_mk (fun p => m_H M1 372 p s) P)) = some (nI (g_ct (fun p => g_H C1 p s) P)) := fun s hs => by
        rw [g_bits _ (by omega), g_ct_cong (g := fun p => g_H C1 p s) (h := fun p => m_H M1 372 p s) (fun p hp => v_H hr hp hs)]
      have h73 : f_X12_later_73 (nI k) a1 a2 0 (nI S) (nI P) b1 b2 M1 b4 b5 = f_X12_later_140 (nI k) a1 a2 (g_oi (g_near (fun s => g_ct (fun p => g_H C1 p s) P) (fun s => !(g_ct (fun p => g_H C1 p s) P == 0)) S)) 0 b1 b2 M1 b4 b5 := by
        unfold f_X12_later_73
        refine g_la S (fun i => g_oi (g_near (fun s => g_ct (fun p => g_H C1 p s) P) (fun s => !(g_ct (fun p => g_H C1 p s) P == 0)) i)) (by omega) rfl (fun K i hi => ?_) (fun K => ?_)
        · unfold f_X12_later_79
          have h1 := hsc i
          rw [if_neg (nI_ge hi (by omega)), hwh i hi, gs_b1_s, hbt i hi, gs_b1_s, nI_1 i]
          by_cases z : g_ct (fun p => g_H C1 p i) P = 0
          · rw [if_pos (by rw [z]; decide), g_near_f (U := fun s => g_ct (fun p => g_H C1 p s) P) (H := fun s => !(g_ct (fun p => g_H C1 p s) P == 0)) (i := i) (by simp [z])]
          · rw [if_neg (nI_nle (by omega) (by omega)), g_near_t (U := fun s => g_ct (fun p => g_H C1 p s) P) (H := fun s => !(g_ct (fun p => g_H C1 p s) P == 0)) (i := i) (by simp [z])]
            cases hn : g_near (fun s => g_ct (fun p => g_H C1 p s) P) (fun s => !(g_ct (fun p => g_H C1 p s) P == 0)) i with
            | none => exact if_pos rfl
            | some w =>
              have hw := g_near_lt _ _ _ _ hn
              have h2 := hsc w
              show (if nI w = -1 then _ else gs_b1 (f_X12_whoHave 372 (nI w) (nI P) M1) fun r13 => gs_b1 (f_X12_bits r13) fun r14 => if r14 ≤ nI (g_ct (fun p => g_H C1 p i) P) then K (nI w) (nI (i + 1)) else K (nI i) (nI (i + 1))) = K (g_oi (if g_ct (fun p => g_H C1 p w) P ≤ g_ct (fun p => g_H C1 p i) P then some w else some i)) _
              rw [if_neg (g_m1 (by omega)), hwh w (by omega), gs_b1_s, hbt w (by omega), gs_b1_s]
              by_cases y : g_ct (fun p => g_H C1 p w) P ≤ g_ct (fun p => g_H C1 p i) P
              · rw [if_pos (nI_le y (by omega)), if_pos y]
                rfl
              · rw [if_neg (nI_ge (by omega) (by omega)), if_neg y]
                rfl
        · unfold f_X12_later_79
          exact if_pos (nI_le (Nat.le_refl _) (by omega))
      rw [h73]
      unfold f_X12_later_140
      left
      have hc : k = 0 ∨ k = 1 ∨ k = 2 := by omega
      rcases hc with h | h | h <;> subst h
      · rw [if_pos nI_0, if_pos nI_0, v_rarestC hP hS, gs_b1_s]
        exact ⟨_, _, _, _, _, _, _, _, _, _, _, rfl, rfl, hlo⟩
      · rw [if_neg (c := nI 1 = 0) (by decide), if_pos (c := nI 1 = 1) (by decide), if_neg (c := nI 1 = 0) (by decide), if_pos (c := nI 1 = 1) (by decide)]
        exact ⟨_, _, _, _, _, _, _, _, _, _, _, rfl, rfl, hlo⟩
      · rw [if_neg (c := nI 2 = 0) (by decide), if_neg (c := nI 2 = 1) (by decide), if_neg (c := nI 2 = 0) (by decide), if_neg (c := nI 2 = 1) (by decide)]
        exact ⟨_, _, _, _, _, _, _, _, _, _, _, rfl, rfl, hlo⟩
    · rw [e1, e2, g_bx1_l, g_b2_s, if_pos rfl]
      exact g_agW.no (Or.inr rfl) rfl
  · rw [e1, e2, g_bx1_l, g_b2_s, if_pos rfl]
    exact g_agW.no (Or.inl rfl) rfl
end OB
