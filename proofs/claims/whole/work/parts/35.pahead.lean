/-! ===== pure rows: days ahead ===== -/
def g_cS (rF rL : Option (List Nat)) (mem : Nat → Nat) (W : Nat → Int32) (P S : Nat) (len : Nat → Nat) (C : Nat → Int32) : Nat → Nat → Int32
  | 0 => C
  | i + 1 => (g_dC rF rL mem W P S len false (g_cS rF rL mem W P S len C i)).1
def m_S (rF rL : Option (List Nat)) (MW : Nat → Int32) (P S : Nat) (len : Nat → Nat) (b : Nat) (M : Nat → Int32) : Nat → Nat → Int32
  | 0 => M
  | i + 1 => (m_dM rF rL MW P S len b false (m_S rF rL MW P S len b M i)).1
def g_cT (rF rL : Option (List Nat)) (mem : Nat → Nat) (W : Nat → Int32) (P S : Nat) (len : Nat → Nat) (C : Nat → Int32) (i : Nat) : Nat := g_sum (fun j => (g_dC rF rL mem W P S len false (g_cS rF rL mem W P S len C j)).2.1) i
def g_cG (rF rL : Option (List Nat)) (mem : Nat → Nat) (W : Nat → Int32) (P S : Nat) (len : Nat → Nat) (C : Nat → Int32) (i : Nat) : Nat := g_sum (fun j => (g_dC rF rL mem W P S len false (g_cS rF rL mem W P S len C j)).2.2) i
theorem m_tries (M : Nat → Int32) : f_X12_tries M = some (g_cpy M M 372 372) := by
  unfold f_X12_tries
  refine g_lb 372 (fun i => g_cpy M M 372 i) (by omega) (g_cpy_0 _ _ _) (fun K i hi => ?_) (fun K => ?_)
  · unfold f_X12_tries_2
    have e1 : g_cpy M M 372 i i = M i := g_cpy_out (by omega)
    have e2 : (372 : Int32) + nI i = nI (372 + i) := nI_add 372 i
    rw [if_neg (show ¬ (372 : Int32) ≤ nI i from nI_ge (b := 372) hi (by decide)), e2, gs_gd_t (gs_in_nI (by omega) (by decide)), gs_gd_t (gs_in_nI (by omega) (by decide)), nI_clamp (by omega), nI_clamp (by omega), e1, nI_1, g_cpy_s]
  · unfold f_X12_tries_2
    exact if_pos (show (372 : Int32) ≤ nI 372 from nI_le (a := 372) (Nat.le_refl _) (by decide))
theorem g_R.tries {P S D : Nat} {len mem : Nat → Nat} {C M tr : Nat → Int32} (hP : P ≤ 7) (hS : S ≤ 5) (h : g_R P S D len mem C M 0) : g_R P S D len mem (g_cpy C tr 0 78) (g_cpy M M 372 372) 372 :=
  h.cong hP hS (fun j hj => by rw [g_cpy_in (by omega) (by omega), Nat.sub_zero]) (fun j hj => by rw [g_cpy_in (by omega) (by omega), Nat.zero_add]; exact congrArg M (by omega))
theorem g_tries_lo {M : Nat → Int32} {j : Nat} (h : j < 372) : g_cpy M M 372 372 j = M j := g_cpy_out (by omega)
section AH
variable {P S D b : Nat} {len mem : Nat → Nat} {rF rL : Option (List Nat)} {L Fs W CC ML MF MW CM mems : Nat → Int32} {fF fT lF lT fA lA pr pm : Int32}
theorem s_R (hT : g_T P S len rF rL L Fs W CC fF fT lF lT ML MF MW CM fA lA) {C M : Nat → Int32} (h : g_R P S D len mem C M b) : ∀ i, g_R P S (D + i) len mem (g_cS rF rL mem W P S len C i) (m_S rF rL MW P S len b M i) b ∧ ∀ j, (j < b ∨ b + 372 ≤ j) → m_S rF rL MW P S len b M i j = M j
  | 0 => ⟨h, fun _ _ => rfl⟩
  | i + 1 => by
    obtain ⟨h1, h2⟩ := s_R hT h i
    obtain ⟨d1, d2, d3⟩ := d_R hT h1 false
    exact ⟨d1, fun j hj => (d3 j hj).trans (h2 j hj)⟩
theorem s_n (hT : g_T P S len rF rL L Fs W CC fF fT lF lT ML MF MW CM fA lA) {C M : Nat → Int32} (h : g_R P S D len mem C M b) (i : Nat) : (g_dC rF rL mem W P S len false (g_cS rF rL mem W P S len C i)).2 = (m_dM rF rL MW P S len b false (m_S rF rL MW P S len b M i)).2 := (d_R hT (s_R hT h i).1 false).2.1
theorem s_C (hT : g_T P S len rF rL L Fs W CC fF fT lF lT ML MF MW CM fA lA) (hm : ∀ p, p < P → f_X1_memoryOf (nI p) pr pm mems = some (nI (mem p))) {C M : Nat → Int32} (h : g_R P S D len mem C M b) (i : Nat) (tg fo : Int32) (v t : Nat → Int32) :
    ∃ v' t', f_X1_passDay 0 tg fo pr pm (nI S) (nI P) fF fT lF lT L mems W CC v t (g_cS rF rL mem W P S len C i) = some (tg + nI (g_dC rF rL mem W P S len false (g_cS rF rL mem W P S len C i)).2.1, fo + nI (g_dC rF rL mem W P S len false (g_cS rF rL mem W P S len C i)).2.2, v', t', g_cS rF rL mem W P S len C (i + 1)) :=
  d_C hT hm (s_R hT h i).1 false tg fo v t
theorem s_M (hT : g_T P S len rF rL L Fs W CC fF fT lF lT ML MF MW CM fA lA) (hb : b ≤ 372) {C M : Nat → Int32} (h : g_R P S D len mem C M b) (i : Nat) (ln fn : Int32) (u q : Nat → Int32) :
    ∃ u' q', f_X12_dayGoes (nI b) (nI S) (nI P) fA lA 0 ln fn ML MW CM (m_S rF rL MW P S len b M i) u q = some (nI (g_dC rF rL mem W P S len false (g_cS rF rL mem W P S len C i)).2.1, nI (g_dC rF rL mem W P S len false (g_cS rF rL mem W P S len C i)).2.2, m_S rF rL MW P S len b M (i + 1), u', q') := by
  have := d_M hT hb (s_R hT h i).1 false ln fn u q
  rw [s_n hT h i]
  exact this
/-- class: how it is behind n days -/
theorem s_foresee (hT : g_T P S len rF rL L Fs W CC fF fT lF lT ML MF MW CM fA lA) (hm : ∀ p, p < P → f_X1_memoryOf (nI p) pr pm mems = some (nI (mem p))) {C M : Nat → Int32} (h : g_R P S D len mem C M 0) {n : Nat} (hn : n ≤ 1000) (tg fo : Int32) (v t tr : Nat → Int32) :
    ∃ v' t', f_X11_foresee (nI n) (nI S) (nI P) fF fT lF lT L mems W CC C tg fo pr pm v t tr = some (nI (g_cT rF rL mem W P S len (g_cpy C tr 0 78) n), nI (g_cG rF rL mem W P S len (g_cpy C tr 0 78) n), v', t', g_cS rF rL mem W P S len (g_cpy C tr 0 78) n) := by
  have h0 := h.tries (tr := tr) hT.1 hT.2.1
  unfold f_X11_foresee
  rw [g_copyRow, gs_b1_s]
  show ∃ v' t', gs_it (fun _ _ _ _ _ _ => none) (f_X11_foresee_20 (nI n) (nI S) (nI P) fF fT lF lT L mems W CC pr pm) gs_fuel 0 0 0 v t (g_cpy C tr 0 78) = _
  have hr := g_run (z := fun _ _ _ _ _ _ => none) (b := f_X11_foresee_20 (nI n) (nI S) (nI P) fF fT lF lT L mems W CC pr pm) (ρ := Int32 × Int32 × (Nat → Int32) × (Nat → Int32) × (Nat → Int32)) (σ := Nat × (Nat → Int32) × (Nat → Int32)) (fun K y => K (nI y.1) (nI (g_cT rF rL mem W P S len (g_cpy C tr 0 78) y.1)) (nI (g_cG rF rL mem W P S len (g_cpy C tr 0 78) y.1)) y.2.1 y.2.2 (g_cS rF rL mem W P S len (g_cpy C tr 0 78) y.1)) (fun y => n - y.1)
    (fun y r => y.1 ≤ n → ∃ v' t', r = some (nI (g_cT rF rL mem W P S len (g_cpy C tr 0 78) n), nI (g_cG rF rL mem W P S len (g_cpy C tr 0 78) n), v', t', g_cS rF rL mem W P S len (g_cpy C tr 0 78) n))
    ?_ gs_fuel (0, v, t) (by show n - 0 < gs_fuel; rw [gs_fuel_eq]; omega) (Nat.zero_le _)
  · have hr' : ∃ v' t', gs_it (fun _ _ _ _ _ _ => none) (f_X11_foresee_20 (nI n) (nI S) (nI P) fF fT lF lT L mems W CC pr pm) gs_fuel (nI 0) (nI 0) (nI 0) v t (g_cpy C tr 0 78) = _ := hr
    rw [nI_0] at hr'
    exact hr'
  · rintro K ⟨i, v, t⟩ ih hi
    replace hi : i ≤ n := hi
    show ∃ v' t', f_X11_foresee_20 (nI n) (nI S) (nI P) fF fT lF lT L mems W CC pr pm K (nI i) (nI (g_cT rF rL mem W P S len (g_cpy C tr 0 78) i)) (nI (g_cG rF rL mem W P S len (g_cpy C tr 0 78) i)) v t (g_cS rF rL mem W P S len (g_cpy C tr 0 78) i) = _
    unfold f_X11_foresee_20
    rcases Nat.lt_or_ge i n with hl2 | hl2
    · obtain ⟨v1, t1, e⟩ := s_C hT hm h0 i (nI (g_cT rF rL mem W P S len (g_cpy C tr 0 78) i)) (nI (g_cG rF rL mem W P S len (g_cpy C tr 0 78) i)) v t
      rw [if_neg (nI_ge hl2 (by omega)), e, g_b5_s, nI_1 i, nI_add, nI_add]
      exact ih (i + 1, v1, t1) (by show n - (i + 1) < n - i; omega) (by show i + 1 ≤ n; omega)
    · have e : i = n := by omega
      subst e
      rw [if_pos (nI_le (Nat.le_refl _) (by omega))]
      exact ⟨v, t, rfl⟩
/-- model: how it is behind n days -/
theorem s_goesTo (hT : g_T P S len rF rL L Fs W CC fF fT lF lT ML MF MW CM fA lA) {C M : Nat → Int32} (h : g_R P S D len mem C M 0) {n : Nat} (hn : n ≤ 1000) (ln fn : Int32) (u q : Nat → Int32) :
    ∃ l' f' u' q', f_X12_goesTo (nI n) (nI S) (nI P) fA lA 0 ln fn ML MW CM M u q = some (l', f', m_S rF rL MW P S len 372 (g_cpy M M 372 372) n, u', q') := by
  have h0 := h.tries (tr := C) hT.1 hT.2.1
  unfold f_X12_goesTo
  rw [m_tries, gs_b1_s]
  unfold f_X12_daysGo
  have hr := g_run (z := fun _ _ _ _ _ _ => none) (b := f_X12_daysGo_2 (nI n) (nI S) (nI P) fA lA 0 ML MW CM) (ρ := Int32 × Int32 × (Nat → Int32) × (Nat → Int32) × (Nat → Int32)) (σ := Nat × Int32 × Int32 × (Nat → Int32) × (Nat → Int32)) (fun K y => K (nI y.1) y.2.1 y.2.2.1 (m_S rF rL MW P S len 372 (g_cpy M M 372 372) y.1) y.2.2.2.1 y.2.2.2.2) (fun y => n - y.1)
    (fun y r => y.1 ≤ n → ∃ l' f' u' q', r = some (l', f', m_S rF rL MW P S len 372 (g_cpy M M 372 372) n, u', q'))
    ?_ gs_fuel (0, ln, fn, u, q) (by show n - 0 < gs_fuel; rw [gs_fuel_eq]; omega) (Nat.zero_le _)
  · obtain ⟨l', f', u', q', hr⟩ := hr
    have hr' : gs_it (fun _ _ _ _ _ _ => none) (f_X12_daysGo_2 (nI n) (nI S) (nI P) fA lA 0 ML MW CM) gs_fuel (nI 0) ln fn (g_cpy M M 372 372) u q = _ := hr
    rw [nI_0] at hr'
    rw [hr', g_b5_s]
    exact ⟨l', f', u', q', rfl⟩
  · rintro K ⟨i, ln, fn, u, q⟩ ih hi
    replace hi : i ≤ n := hi
    show ∃ l' f' u' q', f_X12_daysGo_2 (nI n) (nI S) (nI P) fA lA 0 ML MW CM K (nI i) ln fn (m_S rF rL MW P S len 372 (g_cpy M M 372 372) i) u q = _
    unfold f_X12_daysGo_2
    rcases Nat.lt_or_ge i n with hl2 | hl2
    · obtain ⟨u1, q1, e⟩ := s_M hT (Nat.le_refl 372) h0 i ln fn u q
      rw [if_neg (nI_ge hl2 (by omega)), show f_X12_dayGoes 372 (nI S) (nI P) fA lA 0 ln fn ML MW CM (m_S rF rL MW P S len 372 (g_cpy M M 372 372) i) u q = _ from e, g_b5_s, nI_1 i]
      exact ih (i + 1, _, _, u1, q1) (by show n - (i + 1) < n - i; omega) (by show i + 1 ≤ n; omega)
    · have e : i = n := by omega
      subst e
      rw [if_pos (nI_le (Nat.le_refl _) (by omega))]
      exact ⟨ln, fn, u, q, rfl⟩
theorem s_rel (hT : g_T P S len rF rL L Fs W CC fF fT lF lT ML MF MW CM fA lA) {C M : Nat → Int32} (h : g_R P S D len mem C M 0) (tr : Nat → Int32) (n : Nat) : g_R P S (D + n) len mem (g_cS rF rL mem W P S len (g_cpy C tr 0 78) n) (m_S rF rL MW P S len 372 (g_cpy M M 372 372) n) 372 ∧ ∀ j, j < 372 → m_S rF rL MW P S len 372 (g_cpy M M 372 372) n j = M j := by
  obtain ⟨h1, h2⟩ := s_R hT (h.tries (tr := tr) hT.1 hT.2.1) n
  exact ⟨h1, fun j hj => (h2 j (Or.inl hj)).trans (g_tries_lo hj)⟩
end AH
/-- class and model answer alike, and the model's row of now stays -/
def g_agW (md : Nat → Nat) (M : Nat → Int32) (c : Option (Nat ⊕ (Int32 × Int32 × Int32 × (Nat → Int32) × (Nat → Int32) × (Nat → Int32)))) (m : Option (Int32 × Int32 × Int32 × Int32 × (Nat → Int32) × (Nat → Int32) × (Nat → Int32))) : Prop :=
  (∃ v a1 a2 a3 a4 a5 b1 b2 R b4 b5, c = some (.inr (v, a1, a2, a3, a4, a5)) ∧ m = some (v, 0, b1, b2, R, b4, b5) ∧ ∀ j, j < 372 → R j = M j) ∨
  (∃ e v b1 b2 R b4 b5, (e = 1 ∨ e = 2) ∧ c = some (.inl e) ∧ m = some (v, nI (md e), b1, b2, R, b4, b5) ∧ ∀ j, j < 372 → R j = M j)
theorem g_agW.no {md : Nat → Nat} {M : Nat → Int32} {e : Nat} (he : e = 1 ∨ e = 2) {v x b1 b2 : Int32} {b4 b5 : Nat → Int32} (hx : x = nI (md e)) : g_agW md M (some (.inl e)) (some (v, x, b1, b2, M, b4, b5)) := by
  subst hx
  exact Or.inr ⟨e, v, b1, b2, M, b4, b5, he, rfl, rfl, fun _ _ => rfl⟩
section OA
variable {P S D : Nat} {len mem : Nat → Nat} {rF rL : Option (List Nat)} {C M L Fs W CC ML MF MW CM mems : Nat → Int32} {fF fT lF lT fA lA pr pm th : Int32}
theorem o_then (hT : g_T P S len rF rL L Fs W CC fF fT lF lT ML MF MW CM fA lA) (hm : ∀ p, p < P → f_X1_memoryOf (nI p) pr pm mems = some (nI (mem p))) (hR : g_R P S D len mem C M 0) (x y z w : Int32) (tg fo ln fn : Int32) (v t tr u q : Nat → Int32) :
    g_agW id M (f_X11_then x y z w (nI S) (nI P) fF fT lF lT L Fs mems W CC C tg fo pr pm v t tr) (f_X12_then x y z w th (nI S) (nI P) fA lA 0 ln fn ML MF MW CM M u q) := by
  obtain ⟨hP, hS, hlen, hF, hW, -, -⟩ := id hT
  unfold f_X11_then f_X12_then
  rcases n_person hP x with ⟨p, hp, e⟩ | ⟨e1, e2⟩
  · subst e
    rw [(n_person_t hp hP).1, (n_person_t hp hP).2, g_bx1_r, g_b2_s, if_neg n10]
    rcases n_song hS y with ⟨s, hs, e⟩ | ⟨e1, e2⟩
    · subst e
      have hl := hlen s hs
      rw [(n_song_t hs hS).1, (n_song_t hs hS).2, g_bx1_r, g_b2_s, if_neg n10]
      rcases n_what3 w with ⟨k, hk, e, e1, e2⟩ | ⟨e1, e2⟩
      · subst e
        rw [e1, e2, g_bx1_r, g_b2_s, if_neg n10]
        rcases n_days z with ⟨n, hn, e, e1, e2, -⟩ | ⟨e1, e2, -⟩
        · subst e
          obtain ⟨v', t', c1⟩ := s_foresee hT hm hR (n := n) (by omega) tg fo v t tr
          obtain ⟨l', f', u', q', m1⟩ := s_goesTo hT hR (n := n) (by omega) ln fn u q
          obtain ⟨hr, hlo⟩ := s_rel hT hR tr n
          rw [e1, e2, g_bx1_r, g_b2_s, if_neg n10, c1, m1, g_b5_s, g_b5_s]
          generalize g_cS rF rL mem W P S len (g_cpy C tr 0 78) n = C1 at hr ⊢
          generalize m_S rF rL MW P S len 372 (g_cpy M M 372 372) n = M1 at hr hlo ⊢
          have hH := v_H hr hp hs
          have hh : f_X12_doesHave 372 (nI p) (nI s) M1 = some (if m_H M1 372 p s = true then 1 else 0) := m_has (b := 372) (by omega) (by omega) (by omega) M1
          rw [g_notes (by omega) (by omega), gs_b1_s, hh, gs_b1_s]
          left
          have hc : k = 0 ∨ k = 1 ∨ k = 2 := by omega
          rcases hc with h | h | h <;> subst h
          · rw [if_pos nI_0, g_holdsB (by omega) (by omega), gs_b1_s, hH, if_pos nI_0]
            by_cases e : m_H M1 372 p s = true
            · rw [if_pos e, if_neg n10, if_neg n10]
              exact ⟨_, _, _, _, _, _, _, _, _, _, _, rfl, rfl, hlo⟩
            · rw [if_neg e, if_pos rfl, if_pos rfl]
              exact ⟨_, _, _, _, _, _, _, _, _, _, _, rfl, rfl, hlo⟩
          · rw [if_neg (c := nI 1 = 0) (by decide), if_pos (c := nI 1 = 1) (by decide), g_gapCount _ (by omega) hl.1 hl.2.2.2, gs_b1_s]
            by_cases e : m_H M1 372 p s = true
            · have e3 : f_X12_gapsIn 372 (nI p) (nI s) ML M1 = some (nI (g_mk (m_nA M1 372 p s) (len s))) := m_gapsIn (b := 372) (by omega) (by omega) (by omega) hl.2.1 hl.2.2.2
              rw [if_pos e, if_neg n10, if_neg (c := nI 1 = 0) (by decide), if_pos (c := nI 1 = 1) (by decide), e3, gs_b1_s, g_bits _ hl.2.2.2, gs_b1_s, if_neg (g_H_iff.mp (hH.trans e)), v_gct hr hp hs hl.2.2.2]
              exact ⟨_, _, _, _, _, _, _, _, _, _, _, rfl, rfl, hlo⟩
            · have q2 : C1 (8 + 5 * p + s) = -1 := Decidable.byContradiction (fun z => e (hH.symm.trans (g_H_iff.mpr z)))
              rw [if_neg e, if_pos rfl, if_pos q2]
              exact ⟨_, _, _, _, _, _, _, _, _, _, _, rfl, rfl, hlo⟩
          · rw [if_neg (c := nI 2 = 0) (by decide), if_neg (c := nI 2 = 1) (by decide), g_likeFirst _ (by omega) hl.1 hl.2.2.2, gs_b1_s]
            by_cases e : m_H M1 372 p s = true
            · have e3 : f_X12_likeIn 372 (nI p) (nI s) ML MF M1 = some (nI (g_ct (fun k => M1 (372 + (1 + 40 * p + 8 * s + k)) == MF (8 * s + k)) (len s))) := m_likeIn (b := 372) (by omega) (by omega) (by omega) hl.2.1 hl.2.2.2
              rw [if_pos e, if_neg n10, if_neg (c := nI 2 = 0) (by decide), if_neg (c := nI 2 = 1) (by decide), e3, gs_b1_s, v_like hr hp hs hl.2.2.2 (hF s hs)]
              exact ⟨_, _, _, _, _, _, _, _, _, _, _, rfl, rfl, hlo⟩
            · have q2 : C1 (8 + 5 * p + s) = -1 := Decidable.byContradiction (fun z => e (hH.symm.trans (g_H_iff.mpr z)))
              rw [if_neg e, if_pos rfl, q2, v_like0 hl.2.2.2 (hF s hs)]
              exact ⟨_, _, _, _, _, _, _, _, _, _, _, rfl, rfl, hlo⟩
        · rw [e1, e2, g_bx1_l, g_b2_s, if_pos rfl]
          exact g_agW.no (Or.inr rfl) rfl
      · rw [e1, e2, g_bx1_l, g_b2_s, if_pos rfl]
        exact g_agW.no (Or.inl rfl) rfl
    · rw [e1, e2, g_bx1_l, g_b2_s, if_pos rfl]
      exact g_agW.no (Or.inl rfl) rfl
  · rw [e1, e2, g_bx1_l, g_b2_s, if_pos rfl]
    exact g_agW.no (Or.inl rfl) rfl
theorem o_note (hT : g_T P S len rF rL L Fs W CC fF fT lF lT ML MF MW CM fA lA) (hm : ∀ p, p < P → f_X1_memoryOf (nI p) pr pm mems = some (nI (mem p))) (hR : g_R P S D len mem C M 0) (x y z w : Int32) (tg fo ln fn : Int32) (v t tr u q : Nat → Int32) :
    g_agW id M (f_X11_note x y z w (nI S) (nI P) fF fT lF lT L mems W CC C tg fo pr pm v t tr) (f_X12_note x y z w th (nI S) (nI P) fA lA 0 ln fn ML MW CM M u q) := by
  obtain ⟨hP, hS, hlen, hF, hW, -, -⟩ := id hT
  unfold f_X11_note f_X12_note
  rcases n_person hP x with ⟨p, hp, e⟩ | ⟨e1, e2⟩
  · subst e
    rw [(n_person_t hp hP).1, (n_person_t hp hP).2, g_bx1_r, g_b2_s, if_neg n10]
    rcases n_song hS y with ⟨s, hs, e⟩ | ⟨e1, e2⟩
    · subst e
      have hl := hlen s hs
      rw [(n_song_t hs hS).2, g_b2_s, if_neg n10]
      rcases n_place hS hs hl.1 hl.2.1 hl.2.2.2 z with ⟨k, hk, e, e1, e2⟩ | ⟨e1, e2⟩
      · subst e
        rw [e1, e2, g_bx1_r, g_b2_s, if_neg n10]
        rcases n_days w with ⟨n, hn, e, e1, e2, -⟩ | ⟨e1, e2, -⟩
        · subst e
          obtain ⟨v', t', c1⟩ := s_foresee hT hm hR (n := n) (by omega) tg fo v t tr
          obtain ⟨l', f', u', q', m1⟩ := s_goesTo hT hR (n := n) (by omega) ln fn u q
          obtain ⟨hr, hlo⟩ := s_rel hT hR tr n
          have e3 : (372 : Int32) + nI (1 + 40 * p + 8 * s + k) = nI (372 + (1 + 40 * p + 8 * s + k)) := nI_add 372 _
          rw [e1, e2, g_bx1_r, g_b2_s, if_neg n10, c1, m1, g_b5_s, g_b5_s, g_notes (by omega) (by omega), gs_b1_s, g_noteAt _ (by omega), gs_b1_s, m_noteAt, gs_b1_s, e3, gs_gd_t (gs_in_nI (by omega) (by decide)), nI_clamp (by omega), ← ((hr.2.1 p hp s hs).1 k (by omega)).1]
          exact Or.inl ⟨_, _, _, _, _, _, _, _, _, _, _, rfl, rfl, hlo⟩
        · rw [e1, e2, g_bx1_l, g_b2_s, if_pos rfl]
          exact g_agW.no (Or.inr rfl) rfl
      · rw [e1, e2, g_bx1_l, g_b2_s, if_pos rfl]
        exact g_agW.no (Or.inl rfl) rfl
    · rw [n_place_s e1, e2, g_bx1_l, g_b2_s, if_pos rfl]
      exact g_agW.no (Or.inl rfl) rfl
  · rw [e1, e2, g_bx1_l, g_b2_s, if_pos rfl]
    exact g_agW.no (Or.inl rfl) rfl
theorem o_sung (hT : g_T P S len rF rL L Fs W CC fF fT lF lT ML MF MW CM fA lA) (hm : ∀ p, p < P → f_X1_memoryOf (nI p) pr pm mems = some (nI (mem p))) (hR : g_R P S D len mem C M 0) (x y z : Int32) (tg fo ln fn : Int32) (v t tr u q : Nat → Int32) :
    g_agW id M (f_X11_sung x y z (nI S) (nI P) fF fT lF lT L mems W CC C tg fo pr pm v t tr) (f_X12_sung x y z th (nI S) (nI P) fA lA 0 ln fn ML MW CM M u q) := by
  obtain ⟨hP, hS, hlen, hF, hW, -, -⟩ := id hT
  unfold f_X11_sung f_X12_sung
  rcases n_song hS x with ⟨s, hs, e⟩ | ⟨e1, e2⟩
  · subst e
    have hl := hlen s hs
    rw [(n_song_t hs hS).1, (n_song_t hs hS).2, g_bx1_r, g_b2_s, if_neg n10]
    rcases n_what2 z with ⟨k, hk, e, e1, e2⟩ | ⟨e1, e2⟩
    · subst e
      rw [e1, e2, g_bx1_r, g_b2_s, if_neg n10]
      rcases n_days y with ⟨n, hn, e, e1, e2, -⟩ | ⟨e1, e2, -⟩
      · subst e
        obtain ⟨v', t', c1⟩ := s_foresee hT hm hR (n := n) (by omega) tg fo v t tr
        obtain ⟨l', f', u', q', m1⟩ := s_goesTo hT hR (n := n) (by omega) ln fn u q
        obtain ⟨hr, hlo⟩ := s_rel hT hR tr n
        rw [e1, e2, g_bx1_r, g_b2_s, if_neg n10, c1, m1, g_b5_s, g_b5_s]
        generalize g_cS rF rL mem W P S len (g_cpy C tr 0 78) n = C1 at hr ⊢
        generalize m_S rF rL MW P S len 372 (g_cpy M M 372 372) n = M1 at hr hlo ⊢
        left
        by_cases e : nI k = 0
        · have e3 : f_X12_wholeOnes 372 (nI s) (nI P) ML M1 = some (nI (g_mk (fun p => m_H M1 372 p s && (g_mk (m_nA M1 372 p s) (len s) == 0)) P)) := m_wholeOnes (b := 372) (by omega) (by omega) hP hl.2.1 hl.2.2.2
          rw [if_pos e, if_pos e, g_wholeSingers (by omega) hP hl.1 hl.2.2.2, gs_b1_s, e3, gs_b1_s, g_mk_cong (h := fun p => m_H M1 372 p s && (g_mk (m_nA M1 372 p s) (len s) == 0)) (fun p hp => by rw [v_H hr hp hs, v_gaps hr hp hs hl.2.2.2])]
          exact ⟨_, _, _, _, _, _, _, _, _, _, _, rfl, rfl, hlo⟩
        · have e3 : f_X12_whoHave 372 (nI s) (nI P) M1 = some (nI (g_mk (fun p => m_H M1 372 p s) P)) := m_whoHave (b := 372) (by omega) (by omega) hP
          rw [if_neg e, if_neg e, g_singers (by omega) hP, gs_b1_s, e3, gs_b1_s, v_who hr hs]
          exact ⟨_, _, _, _, _, _, _, _, _, _, _, rfl, rfl, hlo⟩
      · rw [e1, e2, g_bx1_l, g_b2_s, if_pos rfl]
        exact g_agW.no (Or.inr rfl) rfl
    · rw [e1, e2, g_bx1_l, g_b2_s, if_pos rfl]
      exact g_agW.no (Or.inl rfl) rfl
  · rw [e1, e2, g_bx1_l, g_b2_s, if_pos rfl]
    exact g_agW.no (Or.inl rfl) rfl
end OA
