/-! ===== pure rows: giveUp, hum, seek, learn, days ===== -/
def g_N (P S : Nat) (len mem : Nat → Nat) (rf C : Nat → Int32) (ol mn : Int32) (AR : Nat → Int32) (ac : Int32) (rfM M AH : Nat → Int32) : Prop :=
  g_rf rf rfM ∧ g_R P S 9999 len mem C M 0 ∧ g_A P S len mem ol mn AR ac AH
def g_agA (P S : Nat) (len mem : Nat → Nat) (ac0 : Int32) (rfM0 M0 AH0 : Nat → Int32) (c : Option (Nat ⊕ (Int32 × (Nat → Int32) × (Nat → Int32) × Int32 × Int32 × (Nat → Int32)))) (m : Option (Int32 × Int32 × Int32 × (Nat → Int32) × (Nat → Int32) × (Nat → Int32))) : Prop :=
  (∃ v rf C ol mn AR ac rfM M AH, c = some (.inr (v, rf, C, ol, mn, AR)) ∧ m = some (v, 0, ac, rfM, M, AH) ∧ g_N P S len mem rf C ol mn AR ac rfM M AH) ∨
  (c = some (.inl 1) ∧ ∃ v, m = some (v, 1, ac0, rfM0, M0, AH0))
theorem g_R.give {P S D : Nat} {len mem : Nat → Nat} {C M : Nat → Int32} {b p s : Nat} (hP : P ≤ 7) (hS : S ≤ 5) (h : g_R P S D len mem C M b) (hp : p < P) (hs : s < S) : g_R P S D len mem (upd C (8 + 5 * p + s) (-1)) (upd (g_cpy (fun _ => -1) M (b + (1 + 40 * p + 8 * s)) 8) (b + 281 + 5 * p + s) 0) b := by
  obtain ⟨a1, a2, a3, a4⟩ := h.2.1 p hp s hs
  refine h.cell hP hS hp hs (fun j h1 h2 => pk_un h1) (fun j h0 h1 h2 h3 => by rw [pk_un h2, g_cpy_out h1]) ⟨fun k hk => ?_, ?_, ?_, ?_⟩
  · have eM : upd (g_cpy (fun _ => -1) M (b + (1 + 40 * p + 8 * s)) 8) (b + 281 + 5 * p + s) 0 (b + (1 + 40 * p + 8 * s + k)) = -1 := by
      rw [pk_un (by omega), g_cpy_in (by omega) (by omega)]
    rw [pk_us, eM, g_nt_m k hk]
    exact ⟨rfl, Or.inl rfl⟩
  · rw [pk_us, pk_us, if_pos rfl]
  · rw [pk_un (by omega), pk_un (by omega), g_cpy_out (by omega)]
    exact a3
  · rw [pk_un (by omega)]
    exact a4
theorem g_R.hum {P S D : Nat} {len mem : Nat → Nat} {C M : Nat → Int32} {b p s k d : Nat} (hP : P ≤ 7) (hS : S ≤ 5) (h : g_R P S D len mem C M b) (hp : p < P) (hs : s < S) (hk : k < len s) (hk8 : k < 8) (hd : d ≤ 9) (hH : C (8 + 5 * p + s) ≠ -1) : g_R P S D len mem (upd C (8 + 5 * p + s) (g_wn (C (8 + 5 * p + s)) k (nI d))) (upd M (b + (1 + 40 * p + 8 * s + k)) (nI d)) b := by
  obtain ⟨a1, a2, a3, a4⟩ := h.2.1 p hp s hs
  have hx : ∀ j, j < 8 → g_nt (g_wn (C (8 + 5 * p + s)) k (nI d)) j = upd M (b + (1 + 40 * p + 8 * s + k)) (nI d) (b + (1 + 40 * p + 8 * s + j)) := by
    intro j hj
    rw [g_nt_wn _ _ hk8 hj]
    by_cases e : j = k
    · rw [if_pos e, e, pk_us, g_nt_d d (by omega)]
    · rw [if_neg e, pk_un (by omega)]
      exact (a1 j hj).1
  have hne : g_wn (C (8 + 5 * p + s)) k (nI d) ≠ -1 := by
    intro e
    have h1 := hx k hk8
    rw [e, g_nt_m k hk8, pk_us] at h1
    exact g_m1' (by omega) h1
  refine h.cell hP hS hp hs (fun j h1 h2 => pk_un h1) (fun j h0 h1 h2 h3 => pk_un (by omega)) ⟨fun j hj => ?_, ?_, ?_, ?_⟩
  · rw [pk_us]
    refine ⟨hx j hj, ?_⟩
    by_cases e : j = k
    · rw [e, pk_us]
      exact Or.inr ⟨hk, d, hd, rfl⟩
    · rw [pk_un (by omega)]
      exact (a1 j hj).2
  · rw [pk_us, if_neg hne, pk_un (by omega), a2, if_neg hH]
  · rw [pk_un (by omega), pk_un (by omega)]
    exact a3
  · rw [pk_un (by omega)]
    exact a4
section OC
variable {P S : Nat} {len mem : Nat → Nat} {rF rL : Option (List Nat)} {C M L Fs W CC ML MF MW CM mems rf AR rfM AH : Nat → Int32} {fF fT lF lT fA lA pr pm th ol mn ac : Int32}
theorem o_giveUp (hT : g_T P S len rF rL L Fs W CC fF fT lF lT ML MF MW CM fA lA) (hN : g_N P S len mem rf C ol mn AR ac rfM M AH) (x y : Int32) :
    g_agA P S len mem ac rfM M AH (f_X11_giveUp x y rf (nI S) (nI P) L C ol mn AR) (f_X12_giveUp x y th (nI S) (nI P) ac ML rfM M AH) := by
  obtain ⟨hP, hS, hlen, hF, hW, -, -⟩ := id hT
  obtain ⟨hrf, hR, hA⟩ := hN
  unfold f_X11_giveUp f_X12_giveUp
  rcases n_person hP x with ⟨p, hp, e⟩ | ⟨e1, e2⟩
  · subst e
    rw [(n_person_t hp hP).1, (n_person_t hp hP).2, g_bx1_r, g_b2_s, if_neg n10]
    rcases n_song hS y with ⟨s, hs, e⟩ | ⟨e1, e2⟩
    · subst e
      have hl := hlen s hs
      have hH := v_H hR hp hs
      have e3 : f_X12_gapsIn 0 (nI p) (nI s) ML M = some (nI (g_mk (m_nA M 0 p s) (len s))) := m_gapsIn (b := 0) (by omega) (by omega) (by omega) hl.2.1 hl.2.2.2
      have hh : f_X12_doesHave 0 (nI p) (nI s) M = some (if m_H M 0 p s = true then 1 else 0) := m_has (b := 0) (by omega) (by omega) (by omega) M
      rw [(n_song_t hs hS).1, (n_song_t hs hS).2, g_bx1_r, g_b2_s, if_neg n10, g_holdsB (by omega) (by omega), gs_b1_s, e3, gs_b1_s, g_bits _ hl.2.2.2, gs_b1_s, hh, gs_b1_s, hH]
      left
      by_cases e : m_H M 0 p s = true
      · obtain ⟨ol', mn', AR', ac', AH', k1, k2, hA'⟩ := a_keep hP hS hA hR
        have e4 : f_X12_givesUp 0 (nI p) (nI s) M = some (upd (g_cpy (fun _ => -1) M (0 + (1 + 40 * p + 8 * s)) 8) (0 + 281 + 5 * p + s) 0) := m_givesUp (b := 0) (by omega) (by omega) (by omega)
        rw [if_pos e, if_neg n10, if_neg n10, k1, k2, g_b3_s, g_b2_s, g_notes (by omega) (by omega), gs_b1_s, g_gapCount _ (by omega) hl.1 hl.2.2.2, gs_b1_s, g_drop (by omega) (by omega), gs_b1_s, e4, gs_b1_s, if_neg (g_H_iff.mp (hH.trans e)), v_gct hR hp hs hl.2.2.2]
        exact ⟨_, _, _, _, _, _, _, _, _, _, rfl, rfl, hrf, hR.give hP hS hp hs, hA'⟩
      · obtain ⟨a', b', r1, r2, hrf'⟩ := a_refuse hrf
        rw [if_neg e, if_pos rfl, if_pos rfl, r1, r2, g_b2_s, g_b2_s]
        exact ⟨_, _, _, _, _, _, _, _, _, _, rfl, rfl, hrf', hR, hA⟩
    · rw [e1, e2, g_bx1_l, g_b2_s, if_pos rfl]
      exact Or.inr ⟨rfl, _, rfl⟩
  · rw [e1, e2, g_bx1_l, g_b2_s, if_pos rfl]
    exact Or.inr ⟨rfl, _, rfl⟩
theorem o_hum68 (hN : g_N P S len mem rf C ol mn AR ac rfM M AH) : ∃ rf' rfM', f_X11_hum_68 rf C ol mn AR = some (0, rf', C, ol, mn, AR) ∧ f_X12_hum_68 0 ac rfM M AH = some (0, 0, ac, rfM', M, AH) ∧ g_N P S len mem rf' C ol mn AR ac rfM' M AH := by
  obtain ⟨hrf, hR, hA⟩ := hN
  obtain ⟨a', b', r1, r2, hrf'⟩ := a_refuse hrf
  unfold f_X11_hum_68 f_X12_hum_68
  rw [r1, r2, g_b2_s, g_b2_s, if_pos (by decide)]
  exact ⟨a', b', rfl, rfl, hrf', hR, hA⟩
theorem o_hum (hT : g_T P S len rF rL L Fs W CC fF fT lF lT ML MF MW CM fA lA) (hN : g_N P S len mem rf C ol mn AR ac rfM M AH) (x y z w : Int32) :
    g_agA P S len mem ac rfM M AH (f_X11_hum x y z w rf (nI S) (nI P) L C ol mn AR) (f_X12_hum x y z w th (nI S) (nI P) ac ML rfM M AH) := by
  obtain ⟨hP, hS, hlen, hF, hW, -, -⟩ := id hT
  obtain ⟨rf', rfM', j1, j2, hN'⟩ := o_hum68 hN
  obtain ⟨hrf, hR, hA⟩ := hN
  unfold f_X11_hum f_X12_hum
  rcases n_person hP x with ⟨p, hp, e⟩ | ⟨e1, e2⟩
  · subst e
    rw [(n_person_t hp hP).1, (n_person_t hp hP).2, g_bx1_r, g_b2_s, if_neg n10]
    rcases n_song hS y with ⟨s, hs, e⟩ | ⟨e1, e2⟩
    · subst e
      have hl := hlen s hs
      rw [(n_song_t hs hS).2, g_b2_s, if_neg n10]
      rcases n_place hS hs hl.1 hl.2.1 hl.2.2.2 z with ⟨k, hk, e, e1, e2⟩ | ⟨e1, e2⟩
      · subst e
        have hH := v_H hR hp hs
        have hh : f_X12_doesHave 0 (nI p) (nI s) M = some (if m_H M 0 p s = true then 1 else 0) := m_has (b := 0) (by omega) (by omega) (by omega) M
        have hk8 : k < 8 := by omega
        have hnt : g_nt (C (8 + 5 * p + s)) k = M (1 + 40 * p + 8 * s + k) := by
          have := ((hR.2.1 p hp s hs).1 k hk8).1
          rw [Nat.zero_add] at this
          exact this
        rw [e1, e2, g_bx1_r, g_b2_s, if_neg n10, g_notes (by omega) (by omega), gs_b1_s, hh, gs_b1_s, m_noteAt, gs_b1_s, gs_gd_t (gs_in_nI (by omega) (by decide)), nI_clamp (by omega)]
        left
        by_cases e : m_H M 0 p s = true
        · rw [if_pos e, if_neg n10]
          by_cases e5 : M (1 + 40 * p + 8 * s + k) = -1
          · rw [if_pos e5]
            rcases n_in 9 (by omega) w with ⟨d, hd, e⟩ | ⟨hx, hw⟩
            · subst e
              have ew : f_X12_within (nI d) 0 9 = some 1 := by
                unfold f_X12_within
                rw [if_neg (nI_pos (by omega)), if_neg (show ¬ (9 : Int32) < nI d from nI_nlt (a := 9) (by omega) (by omega))]
              obtain ⟨ol', mn', AR', ac', AH', k1, k2, hA'⟩ := a_keep hP hS hA hR
              unfold f_X11_hum_39
              rw [ew, gs_b1_s, if_neg n10, if_neg (nI_pos (by omega)), if_neg (show ¬ (9 : Int32) < nI d from nI_nlt (a := 9) (by omega) (by omega)), if_neg n10, g_holdsB (by omega) (by omega), gs_b1_s, if_pos (hH.trans e), if_neg n10, g_noteAt _ hk8, gs_b1_s, if_pos (hnt.trans e5), k1, k2, g_b3_s, g_b2_s, g_withNote, gs_b1_s, g_setNotes (by omega) (by omega), gs_b1_s, gs_b1_s, gs_gd_t (gs_in_nI (by omega) (by decide)), nI_clamp (by omega)]
              have hR' := hR.hum (k := k) (d := d) hP hS hp hs hk hk8 (by omega) (g_H_iff.mp (hH.trans e))
              rw [Nat.zero_add] at hR'
              exact ⟨_, _, _, _, _, _, _, _, _, _, rfl, rfl, hrf, hR', hA'⟩
            · rw [show f_X12_within w 0 9 = some 0 from hw, gs_b1_s, if_pos rfl, j2]
              have key : ∀ k0 : Int32, (k0 = 0) → f_X11_hum_39 k0 (nI p) (nI s) (nI k) w (C (8 + 5 * p + s)) rf C ol mn AR = some (0, rf', C, ol, mn, AR) := by
                intro k0 h0
                unfold f_X11_hum_39
                rw [if_pos h0, j1]
              have hcl : (if w < 0 then f_X11_hum_39 0 (nI p) (nI s) (nI k) w (C (8 + 5 * p + s)) rf C ol mn AR else if 9 < w then f_X11_hum_39 0 (nI p) (nI s) (nI k) w (C (8 + 5 * p + s)) rf C ol mn AR else f_X11_hum_39 1 (nI p) (nI s) (nI k) w (C (8 + 5 * p + s)) rf C ol mn AR) = some (0, rf', C, ol, mn, AR) := by
                rcases pk_ix w (n := 10) (by omega) with h | h | ⟨j, hj, e⟩
                · rw [if_pos h, key 0 rfl]
                · have h9 : (9 : Int32) < w := by
                    rw [Int32.le_iff_toInt_le, nI_toInt (by omega)] at h
                    rw [Int32.lt_iff_toInt_lt]
                    have : (9 : Int32).toInt = 9 := rfl
                    omega
                  rw [if_pos h9, key 0 rfl]
                  split <;> rfl
                · exact absurd e (hx j hj)
              rw [hcl]
              exact ⟨_, _, _, _, _, _, _, _, _, _, rfl, rfl, hN'⟩
          · rw [if_neg e5, j2]
            have key : ∀ k0 : Int32, f_X11_hum_39 k0 (nI p) (nI s) (nI k) w (C (8 + 5 * p + s)) rf C ol mn AR = some (0, rf', C, ol, mn, AR) := by
              intro k0
              unfold f_X11_hum_39
              rw [g_holdsB (by omega) (by omega), gs_b1_s, if_pos (c := g_H C p s = true) (hH.trans e), if_neg n10, g_noteAt _ hk8, gs_b1_s, if_neg (fun q => e5 (hnt.symm.trans q)), j1]
              split <;> rfl
            rw [key, key]
            have hcl : (if w < 0 then some (0, rf', C, ol, mn, AR) else if 9 < w then some (0, rf', C, ol, mn, AR) else some (0, rf', C, ol, mn, AR)) = some ((0 : Int32), rf', C, ol, mn, AR) := by
              split
              · rfl
              · split <;> rfl
            rw [hcl]
            exact ⟨_, _, _, _, _, _, _, _, _, _, rfl, rfl, hN'⟩
        · rw [if_neg e, if_pos rfl, j2]
          have key : ∀ k0 : Int32, f_X11_hum_39 k0 (nI p) (nI s) (nI k) w (C (8 + 5 * p + s)) rf C ol mn AR = some (0, rf', C, ol, mn, AR) := by
            intro k0
            unfold f_X11_hum_39
            rw [g_holdsB (by omega) (by omega), gs_b1_s, if_neg (c := g_H C p s = true) (fun q => e (hH.symm.trans q)), if_pos rfl, j1]
            split <;> rfl
          rw [key, key]
          have hcl : (if w < 0 then some (0, rf', C, ol, mn, AR) else if 9 < w then some (0, rf', C, ol, mn, AR) else some (0, rf', C, ol, mn, AR)) = some ((0 : Int32), rf', C, ol, mn, AR) := by
            split
            · rfl
            · split <;> rfl
          rw [hcl]
          exact ⟨_, _, _, _, _, _, _, _, _, _, rfl, rfl, hN'⟩
      · rw [e1, e2, g_bx1_l, g_b2_s, if_pos rfl]
        exact Or.inr ⟨rfl, _, rfl⟩
    · rw [n_place_s e1, e2, g_bx1_l, g_b2_s, if_pos rfl]
      exact Or.inr ⟨rfl, _, rfl⟩
  · rw [e1, e2, g_bx1_l, g_b2_s, if_pos rfl]
    exact Or.inr ⟨rfl, _, rfl⟩
theorem o_seek35 (hN : g_N P S len mem rf C ol mn AR ac rfM M AH) : ∃ rf' rfM', f_X11_seek_35 rf C ol mn AR = some (0, rf', C, ol, mn, AR) ∧ f_X12_seek_100 0 ac rfM M AH = some (0, 0, ac, rfM', M, AH) ∧ g_N P S len mem rf' C ol mn AR ac rfM' M AH := by
  obtain ⟨hrf, hR, hA⟩ := hN
  obtain ⟨a', b', r1, r2, hrf'⟩ := a_refuse hrf
  unfold f_X11_seek_35 f_X12_seek_100
  rw [r1, r2, g_b2_s, g_b2_s, if_pos (by decide)]
  exact ⟨a', b', rfl, rfl, hrf', hR, hA⟩
/-- the model seeks something else, or nothing -/
theorem o_seek114 {p : Nat} (hp : p < 7) (x3 x4 : Int32) {ac' : Int32} {AH' : Nat → Int32} (k2 : f_X12_keeps ac M AH = some (ac', AH')) : f_X12_seek_114 (nI p) x3 x4 0 ac rfM M AH = some (1, 0, ac', rfM, upd (upd M (351 + p) x4) (358 + p) x3, AH') := by
  unfold f_X12_seek_114
  have e1 : (351 : Int32) + nI p = nI (351 + p) := nI_add 351 p
  have e2 : (358 : Int32) + nI p = nI (358 + p) := nI_add 358 p
  rw [k2, g_b2_s, e1, e2, gs_gd_t (gs_in_nI (by omega) (by decide)), gs_gd_t (gs_in_nI (by omega) (by decide)), nI_clamp (by omega), nI_clamp (by omega)]
theorem g_R.seek0 (hP : P ≤ 7) (hS : S ≤ 5) (h : g_R P S 9999 len mem C M 0) {p : Nat} (hp : p < P) {v a b : Int32} (hc : (v = -1 ∧ a = -1 ∧ b = -1) ∨ ∃ s o, s < S ∧ o < P ∧ v = nI (7 * s + o) ∧ a = nI s ∧ b = nI o) : g_R P S 9999 len mem (upd C (1 + p) v) (upd (upd M (351 + p) a) (358 + p) b) 0 := by
  refine h.seek hP hS hp (fun j hj => pk_un hj) (fun j _ h1 h2 => ?_) ?_
  · rw [pk_un (by omega), pk_un (by omega)]
  · have e1 : upd (upd M (351 + p) a) (358 + p) b (0 + 351 + p) = a := by
      rw [pk_un (by omega), Nat.zero_add, pk_us]
    have e2 : upd (upd M (351 + p) a) (358 + p) b (0 + 358 + p) = b := by
      rw [Nat.zero_add, pk_us]
    unfold g_sk
    rw [e1, e2, pk_us]
    exact hc
theorem o_seek (hT : g_T P S len rF rL L Fs W CC fF fT lF lT ML MF MW CM fA lA) (hN : g_N P S len mem rf C ol mn AR ac rfM M AH) (x y z : Int32) :
    g_agA P S len mem ac rfM M AH (f_X11_seek x y z rf (nI S) (nI P) C ol mn AR) (f_X12_seek x y z th (nI S) (nI P) ac rfM M AH) := by
  obtain ⟨hP, hS, hlen, hF, hW, -, -⟩ := id hT
  obtain ⟨rf', rfM', j1, j2, hN'⟩ := o_seek35 hN
  obtain ⟨hrf, hR, hA⟩ := hN
  obtain ⟨ol', mn', AR', ac', AH', k1, k2, hA'⟩ := a_keep hP hS hA hR
  unfold f_X11_seek f_X12_seek
  rcases n_person hP x with ⟨p, hp, e⟩ | ⟨e1, e2⟩
  · subst e
    have i1 : (351 : Int32) + nI p = nI (351 + p) := nI_add 351 p
    have i2 : (358 : Int32) + nI p = nI (358 + p) := nI_add 358 p
    have hsk : (C (1 + p) = -1 ∧ M (351 + p) = -1 ∧ M (358 + p) = -1) ∨ ∃ s o, s < S ∧ o < P ∧ C (1 + p) = nI (7 * s + o) ∧ M (351 + p) = nI s ∧ M (358 + p) = nI o := by
      have := hR.2.2.1 p hp
      unfold g_sk at this
      rw [Nat.zero_add, Nat.zero_add] at this
      exact this
    rw [(n_person_t hp hP).1, (n_person_t hp hP).2, g_bx1_r, g_b2_s, if_neg n10]
    by_cases hz : z = -1
    · subst hz
      rw [if_pos rfl, if_neg (by decide), if_neg (g_m1_le (by omega))]
      unfold f_X12_seek_32
      rw [n_r1, g_b2_s, if_neg n10, if_pos rfl, if_pos rfl]
      unfold f_X11_seek_20 f_X11_seeksAlready f_X12_seek_64
      rw [if_neg (g_m1 (by omega)), if_pos rfl, g_seeks (by omega), gs_b1_s, if_neg (g_m1 (by omega)), i1, i2, gs_gd_t (gs_in_nI (by omega) (by decide)), gs_gd_t (gs_in_nI (by omega) (by decide)), nI_clamp (by omega), nI_clamp (by omega)]
      left
      rcases hsk with ⟨q1, q2, q3⟩ | ⟨s, o, hs, ho, q1, q2, q3⟩
      · rw [if_pos q1, if_pos rfl, gs_b1_s, if_neg n10, j1, if_pos q2, if_pos q3, j2]
        exact ⟨_, _, _, _, _, _, _, _, _, _, rfl, rfl, hN'⟩
      · rw [q1, if_neg (g_m1 (by omega)), if_neg n10, gs_b1_s, if_pos rfl, k1, g_b3_s, if_pos rfl, g_seekNothing (by omega), gs_b1_s, q2, if_neg (g_m1 (by omega)), o_seek114 (by omega) _ _ k2]
        exact ⟨_, _, _, _, _, _, _, _, _, _, rfl, rfl, hrf, hR.seek0 hP hS hp (Or.inl ⟨rfl, rfl, rfl⟩), hA'⟩
    · rw [if_neg hz]
      rcases pk_ix z (n := P) (by omega) with h | h | ⟨o, ho, e⟩
      · have h1 : z < -1 := by
          rw [Int32.lt_iff_toInt_lt] at h ⊢
          have a1 : (0 : Int32).toInt = 0 := rfl
          have a2 : (-1 : Int32).toInt = -1 := by decide
          have a3 : z.toInt ≠ -1 := fun q => hz (Int32.toInt_inj.mp (by rw [q, a2]))
          omega
        have h2 : f_X11_needPerson z (nI P) = some (.inl 1) := by
          unfold f_X11_needPerson
          rw [if_pos h]
        rw [h2, g_bx1_l, if_pos h1]
        unfold f_X12_seek_32
        rw [n_r0, g_b2_s, if_pos rfl]
        exact Or.inr ⟨rfl, _, rfl⟩
      · have h2 : f_X11_needPerson z (nI P) = some (.inl 1) := by
          unfold f_X11_needPerson
          by_cases h3 : z < 0
          · rw [if_pos h3]
          · rw [if_neg h3, if_neg (n_nlt h)]
        rw [h2, g_bx1_l, if_pos h]
        unfold f_X12_seek_32
        rw [n_r0, g_b2_s, if_pos rfl]
        right
        refine ⟨rfl, 0, ?_⟩
        split <;> rfl
      · subst e
        rw [(n_person_t ho hP).1, g_bx1_r, if_neg (show ¬ nI o < -1 from fun q => g_m1_le (n := o) (by omega) (by rw [Int32.lt_iff_toInt_lt] at q; rw [Int32.le_iff_toInt_le]; omega)), if_neg (nI_ge ho (by omega))]
        unfold f_X12_seek_32
        rw [n_r1, g_b2_s, if_neg n10, if_neg hz]
        rcases n_song hS y with ⟨s, hs, e⟩ | ⟨e1, e2⟩
        · subst e
          rw [(n_song_t hs hS).1, (n_song_t hs hS).2, g_bx1_r, g_b2_s, if_neg n10, if_neg hz]
          unfold f_X11_seek_20 f_X11_seeksAlready f_X12_seek_64
          left
          by_cases hpo : p = o
          · subst hpo
            rw [if_pos rfl, if_pos rfl, j1, j2]
            exact ⟨_, _, _, _, _, _, _, _, _, _, rfl, rfl, hN'⟩
          · have hne : ¬ nI p = nI o := fun q => hpo ((nI_eq (by omega) (by omega)).mp q)
            have fin : ∃ v rf2 C2 ol2 mn2 AR2 ac2 rfM2 M2 AH2, gs_rt (gs_b3 (f_X0_push ol mn AR C) fun o7_0 o7_1 o7_2 => if nI o = (-1) then gs_b1 (f_X7_seekNothing (nI p) C) fun o10_0 => some ((1 : Int32), rf, o10_0, o7_0, o7_1, o7_2) else gs_b1 (f_X7_setSought (nI p) (nI s) (nI o) C) fun o9_0 => some ((1 : Int32), rf, o9_0, o7_0, o7_1, o7_2)) = some (.inr (v, rf2, C2, ol2, mn2, AR2)) ∧ f_X12_seek_114 (nI p) (nI o) (nI s) 0 ac rfM M AH = some (v, 0, ac2, rfM2, M2, AH2) ∧ g_N P S len mem rf2 C2 ol2 mn2 AR2 ac2 rfM2 M2 AH2 := by
              rw [k1, g_b3_s, if_neg hz, g_setSought (by omega), gs_b1_s, o_seek114 (by omega) _ _ k2]
              exact ⟨_, _, _, _, _, _, _, _, _, _, rfl, rfl, hrf, hR.seek0 hP hS hp (Or.inr ⟨s, o, hs, ho, rfl, rfl, rfl⟩), hA'⟩
            rw [if_neg hne, if_neg hne, if_neg hz, g_soughtSong (by omega), gs_b1_s, g_soughtOf (by omega), gs_b1_s, i1, i2, gs_gd_t (gs_in_nI (by omega) (by decide)), gs_gd_t (gs_in_nI (by omega) (by decide)), nI_clamp (by omega), nI_clamp (by omega)]
            rcases hsk with ⟨q1, q2, q3⟩ | ⟨s', o', hs', ho', q1, q2, q3⟩
            · rw [if_pos q1, if_neg (g_m1' (by omega)), gs_b1_s, if_pos rfl, q2, if_neg (g_m1' (by omega))]
              exact fin
            · have d1 : nI (7 * s' + o') / 7 = nI s' := by
                have := pk_div (a := 7 * s' + o') (d := 7) (by omega) (by omega) (by omega)
                rw [show (7 * s' + o') / 7 = s' by omega] at this
                exact this
              have d2 : nI (7 * s' + o') - nI (7 * s' + o') / 7 * 7 = nI o' := by
                have := pk_rem (a := 7 * s' + o') (d := 7) (by omega) (by omega) (by omega)
                rw [show (7 * s' + o') % 7 = o' by omega] at this
                exact this
              rw [q1, if_neg (g_m1 (by omega)), if_neg (g_m1 (by omega)), d2, d1, q2, q3]
              by_cases c1 : nI s' = nI s
              · rw [if_pos c1, if_pos c1]
                by_cases c2 : nI o' = nI o
                · rw [if_pos c2, if_pos c2, gs_b1_s, if_neg n10, j1, j2]
                  exact ⟨_, _, _, _, _, _, _, _, _, _, rfl, rfl, hN'⟩
                · rw [if_neg c2, if_neg c2, gs_b1_s, if_pos rfl]
                  exact fin
              · rw [if_neg c1, if_neg c1, gs_b1_s, if_pos rfl]
                exact fin
        · rw [e1, e2, g_bx1_l, g_b2_s, if_pos rfl]
          exact Or.inr ⟨rfl, _, rfl⟩
  · rw [e1, e2, g_bx1_l, g_b2_s, if_pos rfl]
    exact Or.inr ⟨rfl, _, rfl⟩
end OC
