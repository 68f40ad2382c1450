/-! ===== pure rows: game ===== -/
def g_dr (i : Nat) (x : Bool) (C : Nat → Int32) : Nat → Int32 := if x = true then upd C i (-1) else C
theorem g_dr_comm (i j : Nat) (x y : Bool) (C : Nat → Int32) : g_dr i x (g_dr j y C) = g_dr j y (g_dr i x C) := by
  cases x <;> cases y <;> try rfl
  show upd (upd C j (-1)) i (-1) = upd (upd C i (-1)) j (-1)
  funext k
  unfold upd
  by_cases h1 : k = i
  · by_cases h2 : k = j
    · rw [if_pos h1, if_pos h2]
    · rw [if_pos h1, if_neg h2, if_pos h1]
  · by_cases h2 : k = j
    · rw [if_neg h1, if_pos h2, if_pos h2]
    · rw [if_neg h1, if_neg h2, if_neg h2, if_neg h1]
def g_gv (P n s : Nat) (C : Nat → Int32) (p : Nat) : Nat := 3 * g_ct (fun o => C (43 + 5 * o + s) == nI p) P + (if C (8 + 5 * p + s) = -1 then 0 else n - g_ct (g_nA (C (8 + 5 * p + s))) n)
def m_gv (P n s : Nat) (M : Nat → Int32) (p : Nat) : Nat := 3 * g_ct (fun o => M (372 + 316 + 5 * o + s) == nI p) P + (n - g_ct (m_nA M 372 p s) n)
theorem g_gv_lt (P n s : Nat) (C : Nat → Int32) (p : Nat) (hP : P ≤ 7) (hn : n ≤ 8) : g_gv P n s C p < 100 := by
  unfold g_gv
  have h1 := g_ct_le (fun o => C (43 + 5 * o + s) == nI p) P
  split <;> omega
def g_rs (ok : Nat → Bool) : Nat → Int32 × Int32
  | 0 => (0, -1)
  | i + 1 => if ok i = true then ((g_rs ok i).1 + 1, if (g_rs ok i).2 = -1 then nI (10 * (i / 2) + i % 2) else (g_rs ok i).2) else g_rs ok i
theorem gm_tab : ∀ c, c < 4 → nI c / 2 = g_w (decide (2 ≤ c)) ∧ nI c - nI c / 2 * 2 = g_w (c % 2 == 1) ∧ 1 - nI c / 2 = g_w (!decide (2 ≤ c)) ∧ 1 - (nI c - nI c / 2 * 2) = g_w (!(c % 2 == 1)) ∧ (10 * (nI c / 2)) + (nI c - nI c / 2 * 2) = nI (10 * (c / 2) + c % 2) := by decide +kernel
def g_c2 (c : Nat) : Nat := if c < 2 then c + 2 else c - 2
def g_c1x (c : Nat) : Nat := if c % 2 = 0 then c + 1 else c - 1
theorem gm_x2 : ∀ c, c < 4 → nI c ^^^ 2 = nI (g_c2 c) ∧ g_c2 c < 4 ∧ decide (2 ≤ g_c2 c) = !decide (2 ≤ c) ∧ (g_c2 c % 2 == 1) = (c % 2 == 1) := by decide +kernel
theorem gm_x1 : ∀ c, c < 4 → nI c ^^^ 1 = nI (g_c1x c) ∧ g_c1x c < 4 ∧ decide (2 ≤ g_c1x c) = decide (2 ≤ c) ∧ (g_c1x c % 2 == 1) = !(c % 2 == 1) := by decide +kernel
section GM
variable {P S D : Nat} {len mem : Nat → Nat} {rF rL : Option (List Nat)} {C M L Fs W CC ML MF MW CM mems : Nat → Int32} {fF fT lF lT fA lA pr pm th : Int32}
theorem gm_eq (hr : g_R P S D len mem C M 372) {p s : Nat} (hp : p < P) (hs : s < S) (hn : len s ≤ 8) : g_gv P (len s) s C p = m_gv P (len s) s M p := by
  unfold g_gv m_gv
  rw [g_ct_cong (h := fun o => M (372 + 316 + 5 * o + s) == nI p) (fun o ho => by rw [(hr.2.1 o ho s hs).2.2.1])]
  by_cases e : C (8 + 5 * p + s) = -1
  · have e9 : g_ct (m_nA M 372 p s) (len s) = len s := g_ct_all.mpr (fun k hk => by
      rw [← (hr.2.1 p hp s hs).nA (by omega)]
      unfold g_nA
      rw [e, g_nt_m k (by omega)]
      rfl)
    rw [if_pos e, e9, Nat.sub_self]
  · rw [if_neg e, v_gct hr hp hs hn]
theorem gm_C (hP : P ≤ 7) {p s n : Nat} (hp : p < 7) (hs : s < 5) (hl : L s = nI n) (hn : n ≤ 8) : f_X11_gainOf (nI p) (nI s) (nI P) L C = some (nI (g_gv P n s C p)) := by
  unfold f_X11_gainOf
  rw [g_pupils _ hs hP, gs_b1_s, g_bc _ (by omega), gs_b1_s, g_notes hp hs, gs_b1_s, g_noteCount _ hs hl hn, gs_b1_s, show (3 : Int32) = nI 3 from rfl, pk_mul, nI_add]
  rfl
theorem gm_dr (hP : P ≤ 7) (hS : S ≤ 5) (hr : g_R P S D len mem C M 372) {p s : Nat} (hp : p < P) (hs : s < S) (x : Bool) {ρ : Type} (k : (Nat → Int32) → Option ρ) : ∃ M', (if g_w x = 1 then gs_b1 (f_X12_givesUp 372 (nI p) (nI s) M) k else k M) = k M' ∧ g_R P S D len mem (g_dr (8 + 5 * p + s) x C) M' 372 ∧ ∀ j, j < 372 → M' j = M j := by
  cases x
  · rw [if_neg (by decide)]
    exact ⟨M, rfl, hr, fun _ _ => rfl⟩
  · have e4 : f_X12_givesUp 372 (nI p) (nI s) M = some (upd (g_cpy (fun _ => -1) M (372 + (1 + 40 * p + 8 * s)) 8) (372 + 281 + 5 * p + s) 0) := m_givesUp (b := 372) (by omega) (by omega) (by omega)
    rw [if_pos (by decide), e4, gs_b1_s]
    refine ⟨_, rfl, hr.give hP hS hp hs, fun j hj => ?_⟩
    rw [pk_un (by omega), g_cpy_out (by omega)]
/-- model: what one gains -/
theorem gm_gains (hT : g_T P S len rF rL L Fs W CC fF fT lF lT ML MF MW CM fA lA) (hR : g_R P S D len mem C M 0) {p o s : Nat} (hp : p < P) (ho : o < P) (hs : s < S) (x y : Bool) (ln fn : Int32) (u q : Nat → Int32) :
    ∃ b1 b2 M' b3 b4, f_X12_gains (nI p) (nI o) (nI s) (g_w x) (g_w y) (nI S) (nI P) fA lA 0 ln fn ML MW CM M u q = some (nI (g_gv P (len s) s (g_cS rF rL mem W P S len (g_dr (8 + 5 * o + s) y (g_dr (8 + 5 * p + s) x C)) 20) p), b1, b2, M', b3, b4) ∧ ∀ j, j < 372 → M' j = M j := by
  obtain ⟨hP, hS, hlen, hF, hW, -, -⟩ := id hT
  have hl := hlen s hs
  have h0 := hR.tries (tr := C) hP hS
  have e0 : g_cpy C C 0 78 = C := by
    funext j
    unfold g_cpy
    split
    · rw [Nat.sub_zero]
    · rfl
  rw [e0] at h0
  unfold f_X12_gains
  rw [m_tries, gs_b1_s]
  obtain ⟨M1, e1, h1, l1⟩ := gm_dr hP hS h0 hp hs x (fun z => f_X12_gains_19 (nI p) (nI o) (nI s) (g_w y) (nI S) (nI P) fA lA 0 ln fn ML MW CM z u q)
  rw [e1]
  unfold f_X12_gains_19
  obtain ⟨M2, e2, h2, l2⟩ := gm_dr hP hS h1 ho hs y (fun z => f_X12_gains_34 (nI p) (nI s) (nI S) (nI P) fA lA 0 ln fn ML MW CM z u q)
  show ∃ b1 b2 M' b3 b4, (if g_w y = 1 then gs_b1 (f_X12_givesUp 372 (nI o) (nI s) M1) (fun z => f_X12_gains_34 (nI p) (nI s) (nI S) (nI P) fA lA 0 ln fn ML MW CM z u q) else f_X12_gains_34 (nI p) (nI s) (nI S) (nI P) fA lA 0 ln fn ML MW CM M1 u q) = _ ∧ _
  rw [e2]
  unfold f_X12_gains_34 f_X12_daysGo
  have hr := g_run (z := fun _ _ _ _ _ _ => none) (b := f_X12_daysGo_2 20 (nI S) (nI P) fA lA 0 ML MW CM) (ρ := Int32 × Int32 × (Nat → Int32) × (Nat → Int32) × (Nat → Int32)) (σ := Nat × Int32 × Int32 × (Nat → Int32) × (Nat → Int32)) (fun K y => K (nI y.1) y.2.1 y.2.2.1 (m_S rF rL MW P S len 372 M2 y.1) y.2.2.2.1 y.2.2.2.2) (fun y => 20 - y.1)
    (fun y r => y.1 ≤ 20 → ∃ l' f' u' q', r = some (l', f', m_S rF rL MW P S len 372 M2 20, u', q'))
    (by
      rintro K ⟨i, ln, fn, u, q⟩ ih hi
      replace hi : i ≤ 20 := hi
      show ∃ l' f' u' q', f_X12_daysGo_2 20 (nI S) (nI P) fA lA 0 ML MW CM K (nI i) ln fn (m_S rF rL MW P S len 372 M2 i) u q = _
      unfold f_X12_daysGo_2
      rcases Nat.lt_or_ge i 20 with hl2 | hl2
      · obtain ⟨u1, q1, e⟩ := s_M hT (Nat.le_refl 372) h2 i ln fn u q
        rw [if_neg (show ¬ (20 : Int32) ≤ nI i from nI_ge (b := 20) hl2 (by omega)), show f_X12_dayGoes 372 (nI S) (nI P) fA lA 0 ln fn ML MW CM (m_S rF rL MW P S len 372 M2 i) u q = _ from e, g_b5_s, nI_1 i]
        exact ih (i + 1, _, _, u1, q1) (by show 20 - (i + 1) < 20 - i; omega) (by show i + 1 ≤ 20; omega)
      · have e : i = 20 := by omega
        subst e
        rw [if_pos (show (20 : Int32) ≤ nI 20 from nI_le (a := 20) (Nat.le_refl _) (by omega))]
        exact ⟨ln, fn, u, q, rfl⟩) gs_fuel (0, ln, fn, u, q) (by show 20 - 0 < gs_fuel; rw [gs_fuel_eq]; omega) (Nat.zero_le _)
  obtain ⟨l', f', u', q', hr⟩ := hr
  have hr' : gs_it (fun _ _ _ _ _ _ => none) (f_X12_daysGo_2 20 (nI S) (nI P) fA lA 0 ML MW CM) gs_fuel (nI 0) ln fn M2 u q = _ := hr
  rw [nI_0] at hr'
  obtain ⟨hrr, hlo⟩ := s_R hT h2 20
  rw [hr', g_b5_s, gm_eq hrr hp hs hl.2.2.2]
  generalize m_S rF rL MW P S len 372 M2 20 = M3 at hrr hlo ⊢
  have e3 : f_X12_pupils 372 (nI p) (nI s) (nI P) M3 = some (nI (g_mk (fun o => M3 (372 + 316 + 5 * o + s) == nI p) P)) := m_pupils (b := 372) (nI p) (by omega) (by omega) hP
  have e5 : f_X12_gapsIn 372 (nI p) (nI s) ML M3 = some (nI (g_mk (m_nA M3 372 p s) (len s))) := m_gapsIn (b := 372) (by omega) (by omega) (by omega) hl.2.1 hl.2.2.2
  have hle := g_ct_le (m_nA M3 372 p s) (len s)
  have e6 : (3 : Int32) * nI (g_ct (fun o => M3 (372 + 316 + 5 * o + s) == nI p) P) + nI (len s) - nI (g_ct (m_nA M3 372 p s) (len s)) = nI (m_gv P (len s) s M3 p) := by
    rw [show (3 : Int32) = nI 3 from rfl, pk_mul, nI_add, pk_sub (by omega)]
    unfold m_gv
    exact congrArg nI (by omega)
  rw [e3, gs_b1_s, g_bits _ (by omega), gs_b1_s, gs_gd_t (gs_in_nI (by omega) (by decide)), e5, gs_b1_s, g_bits _ hl.2.2.2, gs_b1_s, nI_clamp (by omega), hl.2.1, e6]
  exact ⟨_, _, _, _, _, rfl, fun j hj => (hlo j (Or.inl hj)).trans ((l2 j hj).trans ((l1 j hj).trans (g_tries_lo hj)))⟩
/-- class: the gains of a couple -/
theorem gm_play (hT : g_T P S len rF rL L Fs W CC fF fT lF lT ML MF MW CM fA lA) (hm : ∀ p, p < P → f_X1_memoryOf (nI p) pr pm mems = some (nI (mem p))) (hR : g_R P S D len mem C M 0) {p o s c : Nat} (hp : p < P) (ho : o < P) (hs : s < S) (hc : c < 4) (tg fo : Int32) (v t tr gn : Nat → Int32) :
    ∃ a1 a2 a3 a4 a5, f_X11_playCouple (nI p) (nI o) (nI s) (nI c) (nI S) (nI P) fF fT lF lT L mems W CC C tg fo pr pm v t tr gn = some (a1, a2, a3, a4, a5, upd (upd gn (2 * c) (nI (g_gv P (len s) s (g_cS rF rL mem W P S len (g_dr (8 + 5 * o + s) (c % 2 == 1) (g_dr (8 + 5 * p + s) (decide (2 ≤ c)) C)) 20) p))) (2 * c + 1) (nI (g_gv P (len s) s (g_cS rF rL mem W P S len (g_dr (8 + 5 * o + s) (c % 2 == 1) (g_dr (8 + 5 * p + s) (decide (2 ≤ c)) C)) 20) o))) := by
  obtain ⟨hP, hS, hlen, hF, hW, -, -⟩ := id hT
  have hl := hlen s hs
  have tab := gm_tab c hc
  -- a model's run stands between the two
  have hA := hR.tries (tr := tr) hP hS
  have hB := hR.tries (tr := C) hP hS
  have e0 : g_cpy C C 0 78 = C := by
    funext j
    unfold g_cpy
    split
    · rw [Nat.sub_zero]
    · rfl
  rw [e0] at hB
  have two : ∃ M2, g_R P S D len mem (g_dr (8 + 5 * o + s) (c % 2 == 1) (g_dr (8 + 5 * p + s) (decide (2 ≤ c)) (g_cpy C tr 0 78))) M2 372 ∧ g_R P S D len mem (g_dr (8 + 5 * o + s) (c % 2 == 1) (g_dr (8 + 5 * p + s) (decide (2 ≤ c)) C)) M2 372 := by
    have st : ∀ {C1 C2 M1 : Nat → Int32} (i : Nat), i < P → ∀ x : Bool, g_R P S D len mem C1 M1 372 → g_R P S D len mem C2 M1 372 → ∃ M2, g_R P S D len mem (g_dr (8 + 5 * i + s) x C1) M2 372 ∧ g_R P S D len mem (g_dr (8 + 5 * i + s) x C2) M2 372 := by
      intro C1 C2 M1 i hi x r1 r2
      cases x
      · exact ⟨M1, r1, r2⟩
      · exact ⟨_, r1.give hP hS hi hs, r2.give hP hS hi hs⟩
    obtain ⟨M1, a, b⟩ := st p hp (decide (2 ≤ c)) hA hB
    exact st o ho (c % 2 == 1) a b
  obtain ⟨M2, r1, r2⟩ := two
  have q1 := (s_R hT r1 20).1
  have q2 := (s_R hT r2 20).1
  have vp : ∀ i, i < P → g_gv P (len s) s (g_cS rF rL mem W P S len (g_dr (8 + 5 * o + s) (c % 2 == 1) (g_dr (8 + 5 * p + s) (decide (2 ≤ c)) C)) 20) i = g_gv P (len s) s (g_cS rF rL mem W P S len (g_dr (8 + 5 * o + s) (c % 2 == 1) (g_dr (8 + 5 * p + s) (decide (2 ≤ c)) (g_cpy C tr 0 78))) 20) i := fun i hi => (gm_eq q2 hi hs hl.2.2.2).trans (gm_eq q1 hi hs hl.2.2.2).symm
  rw [vp p hp, vp o ho]
  unfold f_X11_playCouple
  rw [g_copyRow, gs_b1_s]
  have s1 : (if nI c < 2 then f_X11_playCouple_26 (nI p) (nI o) (nI s) (nI c) (nI S) (nI P) fF fT lF lT L mems W CC tg fo pr pm v t (g_cpy C tr 0 78) gn else gs_b1 (f_X7_drop (nI p) (nI s) (g_cpy C tr 0 78)) fun o11_0 => f_X11_playCouple_26 (nI p) (nI o) (nI s) (nI c) (nI S) (nI P) fF fT lF lT L mems W CC tg fo pr pm v t o11_0 gn) = f_X11_playCouple_26 (nI p) (nI o) (nI s) (nI c) (nI S) (nI P) fF fT lF lT L mems W CC tg fo pr pm v t (g_dr (8 + 5 * p + s) (decide (2 ≤ c)) (g_cpy C tr 0 78)) gn := by
    by_cases h : 2 ≤ c
    · rw [if_neg (show ¬ nI c < 2 from nI_nlt (b := 2) h (by omega)), g_drop (by omega) (by omega), gs_b1_s, decide_eq_true h]
      rfl
    · rw [if_pos (show nI c < 2 from nI_lt (b := 2) (by omega) (by omega)), decide_eq_false h]
      rfl
  rw [s1]
  generalize g_dr (8 + 5 * p + s) (decide (2 ≤ c)) (g_cpy C tr 0 78) = C1 at r1 q1 ⊢
  unfold f_X11_playCouple_26
  rw [tab.2.1]
  have loop : ∀ C2 : Nat → Int32, g_R P S D len mem C2 M2 372 → ∃ a1 a2 a3 a4 a5, gs_it (fun _ _ _ _ _ _ => none) (f_X11_playCouple_46 (nI p) (nI o) (nI s) (nI c) (nI S) (nI P) fF fT lF lT L mems W CC pr pm gn (fun (v_t_course_taught' : Int32) (v_t_course_forgotten' : Int32) (r_t_course_reckoner_values' : Nat → Int32) (r_t_course_reckoner_stack' : Nat → Int32) (r_t_trial_row' : Nat → Int32) => f_X11_playCouple_71 (nI p) (nI o) (nI s) (nI c) (nI P) L v_t_course_taught' v_t_course_forgotten' r_t_course_reckoner_values' r_t_course_reckoner_stack' r_t_trial_row' gn)) gs_fuel 0 tg fo v t C2 = some (a1, a2, a3, a4, a5, upd (upd gn (2 * c) (nI (g_gv P (len s) s (g_cS rF rL mem W P S len C2 20) p))) (2 * c + 1) (nI (g_gv P (len s) s (g_cS rF rL mem W P S len C2 20) o))) := by
    intro C2 r1
    have hr := g_run (z := fun _ _ _ _ _ _ => none) (b := f_X11_playCouple_46 (nI p) (nI o) (nI s) (nI c) (nI S) (nI P) fF fT lF lT L mems W CC pr pm gn (fun (v_t_course_taught' : Int32) (v_t_course_forgotten' : Int32) (r_t_course_reckoner_values' : Nat → Int32) (r_t_course_reckoner_stack' : Nat → Int32) (r_t_trial_row' : Nat → Int32) => f_X11_playCouple_71 (nI p) (nI o) (nI s) (nI c) (nI P) L v_t_course_taught' v_t_course_forgotten' r_t_course_reckoner_values' r_t_course_reckoner_stack' r_t_trial_row' gn)) (ρ := Int32 × Int32 × (Nat → Int32) × (Nat → Int32) × (Nat → Int32) × (Nat → Int32)) (σ := Nat × Int32 × Int32 × (Nat → Int32) × (Nat → Int32)) (fun K y => K (nI y.1) y.2.1 y.2.2.1 y.2.2.2.1 y.2.2.2.2 (g_cS rF rL mem W P S len C2 y.1)) (fun y => 20 - y.1)
      (fun y r => y.1 ≤ 20 → ∃ a1 a2 a3 a4 a5, r = some (a1, a2, a3, a4, a5, upd (upd gn (2 * c) (nI (g_gv P (len s) s (g_cS rF rL mem W P S len C2 20) p))) (2 * c + 1) (nI (g_gv P (len s) s (g_cS rF rL mem W P S len C2 20) o))))
      (by
        rintro K ⟨i, tg, fo, v, t⟩ ih hi
        replace hi : i ≤ 20 := hi
        show ∃ a1 a2 a3 a4 a5, f_X11_playCouple_46 (nI p) (nI o) (nI s) (nI c) (nI S) (nI P) fF fT lF lT L mems W CC pr pm gn _ K (nI i) tg fo v t (g_cS rF rL mem W P S len C2 i) = _
        unfold f_X11_playCouple_46
        rcases Nat.lt_or_ge i 20 with hl2 | hl2
        · obtain ⟨v1, t1, e⟩ := s_C hT hm r1 i tg fo v t
          rw [if_neg (show ¬ (20 : Int32) ≤ nI i from nI_ge (b := 20) hl2 (by omega)), e, g_b5_s, nI_1 i]
          exact ih (i + 1, _, _, v1, t1) (by show 20 - (i + 1) < 20 - i; omega) (by show i + 1 ≤ 20; omega)
        · have e : i = 20 := by omega
          subst e
          rw [if_pos (show (20 : Int32) ≤ nI 20 from nI_le (a := 20) (Nat.le_refl _) (by omega))]
          show ∃ a1 a2 a3 a4 a5, f_X11_playCouple_71 (nI p) (nI o) (nI s) (nI c) (nI P) L tg fo v t (g_cS rF rL mem W P S len C2 20) gn = _
          unfold f_X11_playCouple_71
          have i0 : (2 : Int32) * nI c = nI (2 * c) := pk_mul 2 c
          have i1 : nI (2 * c) + 1 = nI (2 * c + 1) := nI_1 _
          rw [gm_C hP (by omega) (by omega) hl.1 hl.2.2.2, gs_b1_s, gm_C hP (by omega) (by omega) hl.1 hl.2.2.2, gs_b1_s, i0, i1, gs_gd_t (gs_in_nI (by omega) (by decide)), gs_gd_t (gs_in_nI (by omega) (by decide)), nI_clamp (by omega), nI_clamp (by omega)]
          exact ⟨_, _, _, _, _, rfl⟩) gs_fuel (0, tg, fo, v, t) (by show 20 - 0 < gs_fuel; rw [gs_fuel_eq]; omega) (Nat.zero_le _)
    obtain ⟨a1, a2, a3, a4, a5, hr⟩ := hr
    have hr' : gs_it (fun _ _ _ _ _ _ => none) (f_X11_playCouple_46 (nI p) (nI o) (nI s) (nI c) (nI S) (nI P) fF fT lF lT L mems W CC pr pm gn (fun (v_t_course_taught' : Int32) (v_t_course_forgotten' : Int32) (r_t_course_reckoner_values' : Nat → Int32) (r_t_course_reckoner_stack' : Nat → Int32) (r_t_trial_row' : Nat → Int32) => f_X11_playCouple_71 (nI p) (nI o) (nI s) (nI c) (nI P) L v_t_course_taught' v_t_course_forgotten' r_t_course_reckoner_values' r_t_course_reckoner_stack' r_t_trial_row' gn)) gs_fuel (nI 0) tg fo v t C2 = _ := hr
    rw [nI_0] at hr'
    exact ⟨a1, a2, a3, a4, a5, hr'⟩
  cases hb : (c % 2 == 1) with
  | false =>
    rw [hb] at r1
    rw [if_neg (show ¬ g_w false = 1 by decide)]
    exact loop C1 r1
  | true =>
    rw [hb] at r1
    rw [if_pos (show g_w true = 1 by decide), g_drop (by omega) (by omega), gs_b1_s]
    exact loop _ r1
end GM
