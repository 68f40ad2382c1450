/-! ===== pure rows: count, song, person, first, has, of, agreed ===== -/
theorem n_in (n : Nat) (hn : n < 1000) (x : Int32) : (∃ k, k < n + 1 ∧ x = nI k) ∨ ((∀ k, k < n + 1 → ¬ x = nI k) ∧ f_X12_within x 0 (nI n) = some 0) := by
  rcases pk_ix x (n := n + 1) (by omega) with h | h | h
  · right
    refine ⟨fun k hk e => ?_, ?_⟩
    · rw [e] at h
      exact nI_pos (by omega) h
    · unfold f_X12_within
      rw [if_pos h]
  · by_cases h0 : x < 0
    · exact absurd h (n_lt0 h0 (by omega))
    · right
      refine ⟨fun k hk e => ?_, ?_⟩
      · rw [e] at h
        exact nI_ge hk (by omega) h
      · unfold f_X12_within
        have : nI n < x := by
          rw [Int32.le_iff_toInt_le, nI_toInt (by omega)] at h
          rw [Int32.lt_iff_toInt_lt, nI_toInt (by omega)]
          omega
        rw [if_neg h0, if_pos this]
  · exact Or.inl h
theorem n10 : ¬ (1 : Int32) = 0 := by decide
theorem v_gsum {P S D : Nat} {len mem : Nat → Nat} {C M : Nat → Int32} {b : Nat} (h : g_R P S D len mem C M b) {p s : Nat} (hp : p < P) (hs : s < S) (hn : len s ≤ 8) : (if C (8 + 5 * p + s) = -1 then 0 else g_ct (g_nA (C (8 + 5 * p + s))) (len s)) = (if m_H M b p s = true then g_ct (m_nA M b p s) (len s) else 0) := by
  rw [← v_H h hp hs, v_gct h hp hs hn]
  by_cases e : C (8 + 5 * p + s) = -1
  · rw [if_pos e, if_neg (fun z => g_H_iff.mp z e)]
  · rw [if_neg e, if_pos (g_H_iff.mpr e)]
theorem v_like {P S D : Nat} {len mem : Nat → Nat} {C M Fs MF : Nat → Int32} {b : Nat} (h : g_R P S D len mem C M b) {p s : Nat} (hp : p < P) (hs : s < S) (hn : len s ≤ 8) (hF : ∀ k, k < len s → g_nt (Fs s) k = MF (8 * s + k) ∧ g_dg (MF (8 * s + k))) : g_ct (fun k => g_nt (C (8 + 5 * p + s)) k == g_nt (Fs s) k) (len s) = g_ct (fun k => M (b + (1 + 40 * p + 8 * s + k)) == MF (8 * s + k)) (len s) := g_ct_cong (fun k hk => by rw [((h.2.1 p hp s hs).1 k (by omega)).1, (hF k hk).1])
theorem v_like0 {len : Nat → Nat} {Fs MF : Nat → Int32} {s : Nat} (hn : len s ≤ 8) (hF : ∀ k, k < len s → g_nt (Fs s) k = MF (8 * s + k) ∧ g_dg (MF (8 * s + k))) : g_ct (fun k => g_nt (-1) k == g_nt (Fs s) k) (len s) = 0 := g_ct_0.mpr (fun k hk => by
  obtain ⟨d, hd, e⟩ := (hF k hk).2
  rw [g_nt_m k (by omega), (hF k hk).1, e]
  have := g_m1' (n := d) (by omega)
  simp [this])
section Q1
variable {P S D : Nat} {len mem : Nat → Nat} {rF rL : Option (List Nat)} {C M L Fs W CC ML MF MW CM mems rfC rfM : Nat → Int32} {fF fT lF lT fA lA tp am hm th : Int32}
theorem o_count (hT : g_T P S len rF rL L Fs W CC fF fT lF lT ML MF MW CM fA lA) (hR : g_R P S D len mem C M 0) (hrf : ∀ i, i < 3 → rfC i = rfM i) (x : Int32) : g_ag (f_X11_count x tp rfC (nI S) (nI P) L C am hm) (f_X12_count x th (nI S) (nI P) tp am hm ML rfM M) := by
  obtain ⟨hP, hS, hlen, hF, hW, -, -⟩ := hT
  rcases n_in 11 (by omega) x with ⟨k, hk, e⟩ | ⟨hx, hw⟩
  · have hc : k = 0 ∨ k = 1 ∨ k = 2 ∨ k = 3 ∨ k = 4 ∨ k = 5 ∨ k = 6 ∨ k = 7 ∨ k = 8 ∨ k = 9 ∨ k = 10 ∨ k = 11 := by omega
    subst e
    unfold f_X11_count f_X12_count
    rcases hc with h | h | h | h | h | h | h | h | h | h | h | h <;> subst h
    · show g_ag (if (0 : Int32) = 0 then _ else _) (gs_b1 (some 1) _)
      rw [if_pos (by decide), gs_b1_s, n_r1, g_b2_s, if_neg n10]
      rw [if_pos (by decide)]
      exact Or.inl ⟨_, rfl, rfl⟩
    · show g_ag (if (1 : Int32) = 0 then _ else _) (gs_b1 (some 1) _)
      rw [if_neg (by decide), if_pos (by decide), gs_b1_s, n_r1, g_b2_s, if_neg n10]
      rw [if_neg (by decide), if_pos (by decide)]
      exact Or.inl ⟨_, rfl, rfl⟩
    · show g_ag (if (2 : Int32) = 0 then _ else _) (gs_b1 (some 1) _)
      rw [if_neg (by decide), if_neg (by decide), if_pos (by decide), gs_b1_s, n_r1, g_b2_s, if_neg n10]
      rw [if_neg (by decide), if_neg (by decide), if_pos (by decide)]
      obtain ⟨⟨d, -, d1, d2⟩, -⟩ := hR
      rw [g_day, gs_b1_s, gs_gd_t (by decide), tc0, d1, d2]
      exact Or.inl ⟨_, rfl, rfl⟩
    · show g_ag (if (3 : Int32) = 0 then _ else _) (gs_b1 (some 1) _)
      rw [if_neg (by decide), if_neg (by decide), if_neg (by decide), if_pos (by decide), gs_b1_s, n_r1, g_b2_s, if_neg n10]
      rw [if_neg (by decide), if_neg (by decide), if_neg (by decide), if_pos (by decide)]
      have e := m_lostOnes (M := M) (b := 0) (by omega) hS hP
      rw [nI_0] at e
      rw [g_unsung hS hP, gs_b1_s, e, gs_b1_s, g_mk_cong (h := fun s => g_mk (fun p => m_H M 0 p s) P == 0) (fun s hs => by rw [v_who hR hs])]
      exact Or.inl ⟨_, rfl, rfl⟩
    · show g_ag (if (4 : Int32) = 0 then _ else _) (gs_b1 (some 1) _)
      rw [if_neg (by decide), if_neg (by decide), if_neg (by decide), if_neg (by decide), if_pos (by decide), gs_b1_s, n_r1, g_b2_s, if_neg n10]
      rw [if_neg (by decide), if_neg (by decide), if_neg (by decide), if_neg (by decide), if_pos (by decide)]
      have e := m_gapsAll (M := M) (L := ML) (b := 0) len (by omega) hP hS (fun s hs => ⟨(hlen s hs).2.1, (hlen s hs).2.2.2⟩)
      rw [nI_0] at e
      rw [g_gapsOfAll len hP hS (fun s hs => ⟨(hlen s hs).1, (hlen s hs).2.2.2⟩), gs_b1_s, e, gs_b1_s]
      rw [g_sum_cong (h := fun p => g_sum (fun s => if m_H M 0 p s = true then g_ct (m_nA M 0 p s) (len s) else 0) S) (fun p hp => g_sum_cong (fun s hs => ?_))]
      · exact Or.inl ⟨_, rfl, rfl⟩
      · exact v_gsum hR hp hs (hlen s hs).2.2.2
    · show g_ag (if (5 : Int32) = 0 then _ else _) (gs_b1 (some 1) _)
      rw [if_neg (by decide), if_neg (by decide), if_neg (by decide), if_neg (by decide), if_neg (by decide), if_pos (by decide), gs_b1_s, n_r1, g_b2_s, if_neg n10]
      rw [if_neg (by decide), if_neg (by decide), if_neg (by decide), if_neg (by decide), if_neg (by decide), if_pos (by decide)]
      rw [g_seekers hP, gs_b1_s, m_seekers hP, gs_b1_s, g_mk_cong (h := fun p => !(M (351 + p) == -1)) (fun p hp => ?_)]
      · exact Or.inl ⟨_, rfl, rfl⟩
      · rcases hR.2.2.1 p hp with ⟨q1, q2, -⟩ | ⟨s, o, hs, ho, q1, q2, -⟩
        · rw [q1, show 351 + p = 0 + 351 + p by omega, q2]
        · rw [q1, show 351 + p = 0 + 351 + p by omega, q2]
          have h1 := g_m1 (n := 7 * s + o) (by omega)
          have h2 := g_m1 (n := s) (by omega)
          rw [beq_eq_false_iff_ne.mpr h1, beq_eq_false_iff_ne.mpr h2]
    · show g_ag (if (6 : Int32) = 0 then _ else _) (gs_b1 (some 1) _)
      rw [if_neg (by decide), if_neg (by decide), if_neg (by decide), if_neg (by decide), if_neg (by decide), if_neg (by decide), if_pos (by decide), gs_b1_s, n_r1, g_b2_s, if_neg n10]
      rw [if_neg (by decide), if_neg (by decide), if_neg (by decide), if_neg (by decide), if_neg (by decide), if_neg (by decide), if_pos (by decide)]
      exact Or.inl ⟨_, rfl, rfl⟩
    · show g_ag (if (7 : Int32) = 0 then _ else _) (gs_b1 (some 1) _)
      rw [if_neg (by decide), if_neg (by decide), if_neg (by decide), if_neg (by decide), if_neg (by decide), if_neg (by decide), if_neg (by decide), if_pos (by decide), gs_b1_s, n_r1, g_b2_s, if_neg n10]
      rw [if_neg (by decide), if_neg (by decide), if_neg (by decide), if_neg (by decide), if_neg (by decide), if_neg (by decide), if_neg (by decide), if_pos (by decide)]
      exact Or.inl ⟨_, rfl, rfl⟩
    · show g_ag (if (8 : Int32) = 0 then _ else _) (gs_b1 (some 1) _)
      rw [if_neg (by decide), if_neg (by decide), if_neg (by decide), if_neg (by decide), if_neg (by decide), if_neg (by decide), if_neg (by decide), if_neg (by decide), if_pos (by decide), gs_b1_s, n_r1, g_b2_s, if_neg n10]
      rw [if_neg (by decide), if_neg (by decide), if_neg (by decide), if_neg (by decide), if_neg (by decide), if_neg (by decide), if_neg (by decide), if_neg (by decide), if_pos (by decide)]
      exact Or.inl ⟨_, rfl, rfl⟩
    · show g_ag (if (9 : Int32) = 0 then _ else _) (gs_b1 (some 1) _)
      rw [if_neg (by decide), if_neg (by decide), if_neg (by decide), if_neg (by decide), if_neg (by decide), if_neg (by decide), if_neg (by decide), if_neg (by decide), if_neg (by decide), if_pos (by decide), gs_b1_s, n_r1, g_b2_s, if_neg n10]
      rw [if_neg (by decide), if_neg (by decide), if_neg (by decide), if_neg (by decide), if_neg (by decide), if_neg (by decide), if_neg (by decide), if_neg (by decide), if_neg (by decide)]
      rw [gs_gd_t (by decide), gs_gd_t (by decide), tc0, show (nI 9 - 9).toNatClampNeg = 0 from rfl, hrf 0 (by omega)]
      exact Or.inl ⟨_, rfl, rfl⟩
    · show g_ag (if (10 : Int32) = 0 then _ else _) (gs_b1 (some 1) _)
      rw [if_neg (by decide), if_neg (by decide), if_neg (by decide), if_neg (by decide), if_neg (by decide), if_neg (by decide), if_neg (by decide), if_neg (by decide), if_neg (by decide), if_neg (by decide), if_pos (by decide), gs_b1_s, n_r1, g_b2_s, if_neg n10]
      rw [if_neg (by decide), if_neg (by decide), if_neg (by decide), if_neg (by decide), if_neg (by decide), if_neg (by decide), if_neg (by decide), if_neg (by decide), if_neg (by decide)]
      rw [gs_gd_t (by decide), gs_gd_t (by decide), tc1, show (nI 10 - 9).toNatClampNeg = 1 from rfl, hrf 1 (by omega)]
      exact Or.inl ⟨_, rfl, rfl⟩
    · show g_ag (if (11 : Int32) = 0 then _ else _) (gs_b1 (some 1) _)
      rw [if_neg (by decide), if_neg (by decide), if_neg (by decide), if_neg (by decide), if_neg (by decide), if_neg (by decide), if_neg (by decide), if_neg (by decide), if_neg (by decide), if_neg (by decide), if_neg (by decide), if_pos (by decide), gs_b1_s, n_r1, g_b2_s, if_neg n10]
      rw [if_neg (by decide), if_neg (by decide), if_neg (by decide), if_neg (by decide), if_neg (by decide), if_neg (by decide), if_neg (by decide), if_neg (by decide), if_neg (by decide)]
      rw [gs_gd_t (by decide), gs_gd_t (by decide), tc2, show (nI 11 - 9).toNatClampNeg = 2 from rfl, hrf 2 (by omega)]
      exact Or.inl ⟨_, rfl, rfl⟩
  · unfold f_X11_count f_X12_count
    rw [if_neg (show ¬ x = 0 from hx 0 (by omega)), if_neg (show ¬ x = 1 from hx 1 (by omega)), if_neg (show ¬ x = 2 from hx 2 (by omega)), if_neg (show ¬ x = 3 from hx 3 (by omega)), if_neg (show ¬ x = 4 from hx 4 (by omega)), if_neg (show ¬ x = 5 from hx 5 (by omega)), if_neg (show ¬ x = 6 from hx 6 (by omega)), if_neg (show ¬ x = 7 from hx 7 (by omega)), if_neg (show ¬ x = 8 from hx 8 (by omega)), if_neg (show ¬ x = 9 from hx 9 (by omega)), if_neg (show ¬ x = 10 from hx 10 (by omega)), if_neg (show ¬ x = 11 from hx 11 (by omega)), show f_X12_within x 0 11 = some 0 from hw, gs_b1_s, n_r0, g_b2_s, if_pos rfl]
    exact Or.inr ⟨rfl, _, rfl⟩
theorem o_song (hT : g_T P S len rF rL L Fs W CC fF fT lF lT ML MF MW CM fA lA) (hR : g_R P S D len mem C M 0) (x y : Int32) : g_ag (f_X11_song x y (nI S) (nI P) L C) (f_X12_song x y th (nI S) (nI P) ML M) := by
  obtain ⟨hP, hS, hlen, hF, hW, -, -⟩ := hT
  rcases n_song hS x with ⟨s, hs, e⟩ | ⟨e1, e2⟩
  · subst e
    have hl := hlen s hs
    obtain ⟨o, n1, n2, n3⟩ := v_nearest (L := L) (ML := ML) hR hP hS hs hl.1 hl.2.1 hl.2.2.2
    unfold f_X11_song f_X12_song
    rw [(n_song_t hs hS).1, (n_song_t hs hS).2, g_bx1_r, g_b2_s, if_neg n10]
    rcases n_in 4 (by omega) y with ⟨k, hk, e⟩ | ⟨hx, hw⟩
    · have hc : k = 0 ∨ k = 1 ∨ k = 2 ∨ k = 3 ∨ k = 4 := by omega
      subst e
      rw [show f_X12_isWhat (nI k) 4 0 = some (1, 0) from (n_what_t (m := 4) hk (by omega)).2, g_b2_s, if_neg n10, n2, gs_b1_s]
      rcases hc with h | h | h | h | h <;> subst h
      · show g_ag (if (0 : Int32) = 0 then _ else _) (if (0 : Int32) = 0 then _ else _)
        rw [if_pos (by decide), if_pos (by decide)]
        rw [gs_gd_t (gs_in_nI (by omega) (by decide)), gs_gd_t (gs_in_nI (by omega) (by decide)), nI_clamp (by omega), hl.1, hl.2.1]
        exact Or.inl ⟨_, rfl, rfl⟩
      · show g_ag (if (1 : Int32) = 0 then _ else _) (if (1 : Int32) = 0 then _ else _)
        rw [if_neg (by decide), if_pos (by decide), if_neg (by decide), if_pos (by decide)]
        have e := m_whoHave (M := M) (b := 0) (s := s) (by omega) (by omega) hP
        rw [nI_0] at e
        rw [g_singers (by omega) hP, gs_b1_s, e, gs_b1_s, v_who hR hs]
        exact Or.inl ⟨_, rfl, rfl⟩
      · show g_ag (if (2 : Int32) = 0 then _ else _) (if (2 : Int32) = 0 then _ else _)
        rw [if_neg (by decide), if_neg (by decide), if_pos (by decide), if_neg (by decide), if_neg (by decide), if_pos (by decide)]
        have e := m_wholeOnes (M := M) (L := ML) (b := 0) (s := s) (by omega) (by omega) hP hl.2.1 hl.2.2.2
        rw [nI_0] at e
        rw [g_wholeSingers (by omega) hP hl.1 hl.2.2.2, gs_b1_s, e, gs_b1_s, g_mk_cong (h := fun p => m_H M 0 p s && (g_mk (m_nA M 0 p s) (len s) == 0)) (fun p hp => by rw [v_H hR hp hs, v_gaps hR hp hs hl.2.2.2])]
        exact Or.inl ⟨_, rfl, rfl⟩
      · show g_ag (if (3 : Int32) = 0 then _ else _) (if (3 : Int32) = 0 then _ else _)
        rw [if_neg (by decide), if_neg (by decide), if_neg (by decide), if_pos (by decide), if_neg (by decide), if_neg (by decide), if_neg (by decide), if_pos (by decide)]
        rw [n1, gs_b1_s]
        exact Or.inl ⟨_, rfl, rfl⟩
      · show g_ag (if (4 : Int32) = 0 then _ else _) (if (4 : Int32) = 0 then _ else _)
        rw [if_neg (by decide), if_neg (by decide), if_neg (by decide), if_neg (by decide), if_pos (by decide), if_neg (by decide), if_neg (by decide), if_neg (by decide), if_neg (by decide)]
        rw [n1, gs_b1_s]
        rcases n3 with rfl | ⟨wh, u, rfl, hwh, u1, u2⟩
        · exact Or.inl ⟨_, rfl, if_pos rfl⟩
        · show g_ag (gs_rt (gs_b1 (f_X10_unlikeAll (nI wh) (nI s) (nI P) L C) _)) (if nI wh = -1 then _ else gs_b1 (f_X12_unlikeAll (nI wh) (nI s) (nI P) ML M) _)
          rw [u1, gs_b1_s, if_neg (g_m1 (by omega)), u2, gs_b1_s]
          exact Or.inl ⟨_, rfl, rfl⟩
    · rw [if_neg (show ¬ y = 0 from hx 0 (by omega)), if_neg (show ¬ y = 1 from hx 1 (by omega)), if_neg (show ¬ y = 2 from hx 2 (by omega)), if_neg (show ¬ y = 3 from hx 3 (by omega)), if_neg (show ¬ y = 4 from hx 4 (by omega))]
      have e3 : f_X12_isWhat y 4 0 = some (0, 1) := by
        unfold f_X12_isWhat
        rw [show f_X12_within y 0 4 = some 0 from hw]
        rfl
      rw [e3, g_b2_s, if_pos rfl]
      exact Or.inr ⟨rfl, _, rfl⟩
  · unfold f_X11_song f_X12_song
    rw [e1, e2, g_bx1_l, g_b2_s, if_pos rfl]
    exact Or.inr ⟨rfl, _, rfl⟩
theorem o_person (hT : g_T P S len rF rL L Fs W CC fF fT lF lT ML MF MW CM fA lA) (hR : g_R P S D len mem C M 0) (hmem : ∀ p, p < P → mems p = nI (mem p)) (x y : Int32) : g_ag (f_X11_person x y (nI S) (nI P) mems W C) (f_X12_person x y th (nI S) (nI P) MW M) := by
  obtain ⟨hP, hS, hlen, hF, hW, -, -⟩ := hT
  rcases n_person hP x with ⟨p, hp, e⟩ | ⟨e1, e2⟩
  · subst e
    unfold f_X11_person f_X12_person
    rw [(n_person_t hp hP).1, (n_person_t hp hP).2, g_bx1_r, g_b2_s, if_neg n10]
    rcases n_in 4 (by omega) y with ⟨k, hk, e⟩ | ⟨hx, hw⟩
    · have hc : k = 0 ∨ k = 1 ∨ k = 2 ∨ k = 3 ∨ k = 4 := by omega
      subst e
      rw [show f_X12_isWhat (nI k) 4 0 = some (1, 0) from (n_what_t (m := 4) hk (by omega)).2, g_b2_s, if_neg n10]
      rcases hc with h | h | h | h | h <;> subst h
      · show g_ag (if (0 : Int32) = 0 then _ else _) (if (0 : Int32) = 0 then _ else _)
        rw [if_pos (by decide), if_pos (by decide)]
        have e := (hR.2.2.2 p hp).1
        rw [Nat.zero_add] at e
        rw [show (365 : Int32) + nI p = nI (365 + p) from nI_add 365 p, gs_gd_t (gs_in_nI (by omega) (by decide)), gs_gd_t (gs_in_nI (by omega) (by decide)), nI_clamp (by omega), nI_clamp (by omega), hmem p hp, e]
        exact Or.inl ⟨_, rfl, rfl⟩
      · show g_ag (if (1 : Int32) = 0 then _ else _) (if (1 : Int32) = 0 then _ else _)
        rw [if_neg (by decide), if_pos (by decide), if_neg (by decide), if_pos (by decide)]
        rw [gs_gd_t (gs_in_nI (by omega) (by decide)), gs_gd_t (gs_in_nI (by omega) (by decide)), nI_clamp (by omega), hW p hp]
        exact Or.inl ⟨_, rfl, rfl⟩
      · show g_ag (if (2 : Int32) = 0 then _ else _) (if (2 : Int32) = 0 then _ else _)
        rw [if_neg (by decide), if_neg (by decide), if_pos (by decide), if_neg (by decide), if_neg (by decide), if_pos (by decide)]
        have e := m_songsOf (M := M) (b := 0) (p := p) (by omega) (by omega) hS
        rw [nI_0] at e
        rw [g_songsOf (by omega) hS, gs_b1_s, e, gs_b1_s, g_mk_cong (h := fun s => m_H M 0 p s) (fun s hs => v_H hR hp hs)]
        exact Or.inl ⟨_, rfl, rfl⟩
      · show g_ag (if (3 : Int32) = 0 then _ else _) (if (3 : Int32) = 0 then _ else _)
        rw [if_neg (by decide), if_neg (by decide), if_neg (by decide), if_pos (by decide), if_neg (by decide), if_neg (by decide), if_neg (by decide), if_pos (by decide)]
        rw [show (351 : Int32) + nI p = nI (351 + p) from nI_add 351 p, gs_gd_t (gs_in_nI (by omega) (by decide)), nI_clamp (by omega), g_soughtSong (by omega), gs_b1_s]
        rcases hR.2.2.1 p hp with ⟨q1, q2, q3⟩ | ⟨s, o, hs, ho, q1, q2, q3⟩
        · rw [Nat.zero_add] at q2 q3
          rw [q1, if_pos rfl, q2]
          exact Or.inl ⟨_, rfl, rfl⟩
        · rw [Nat.zero_add] at q2 q3
          rw [q1, if_neg (g_m1 (by omega)), q2]
          have ed : nI (7 * s + o) / 7 = nI s := by
            show nI (7 * s + o) / nI 7 = nI s
            rw [pk_div (by omega) (by omega) (by omega), show (7 * s + o) / 7 = s by omega]
          rw [ed]
          exact Or.inl ⟨_, rfl, rfl⟩
      · show g_ag (if (4 : Int32) = 0 then _ else _) (if (4 : Int32) = 0 then _ else _)
        rw [if_neg (by decide), if_neg (by decide), if_neg (by decide), if_neg (by decide), if_pos (by decide), if_neg (by decide), if_neg (by decide), if_neg (by decide), if_neg (by decide)]
        rw [show (358 : Int32) + nI p = nI (358 + p) from nI_add 358 p, gs_gd_t (gs_in_nI (by omega) (by decide)), nI_clamp (by omega), g_soughtOf (by omega), gs_b1_s]
        rcases hR.2.2.1 p hp with ⟨q1, q2, q3⟩ | ⟨s, o, hs, ho, q1, q2, q3⟩
        · rw [Nat.zero_add] at q2 q3
          rw [q1, if_pos rfl, q3]
          exact Or.inl ⟨_, rfl, rfl⟩
        · rw [Nat.zero_add] at q2 q3
          rw [q1, if_neg (g_m1 (by omega)), q3]
          have er : nI (7 * s + o) - nI (7 * s + o) / 7 * 7 = nI o := by
            show nI (7 * s + o) - nI (7 * s + o) / nI 7 * nI 7 = nI o
            rw [pk_rem (by omega) (by omega) (by omega), show (7 * s + o) % 7 = o by omega]
          rw [er]
          exact Or.inl ⟨_, rfl, rfl⟩
    · rw [if_neg (show ¬ y = 0 from hx 0 (by omega)), if_neg (show ¬ y = 1 from hx 1 (by omega)), if_neg (show ¬ y = 2 from hx 2 (by omega)), if_neg (show ¬ y = 3 from hx 3 (by omega)), if_neg (show ¬ y = 4 from hx 4 (by omega))]
      have e3 : f_X12_isWhat y 4 0 = some (0, 1) := by
        unfold f_X12_isWhat
        rw [show f_X12_within y 0 4 = some 0 from hw]
        rfl
      rw [e3, g_b2_s, if_pos rfl]
      exact Or.inr ⟨rfl, _, rfl⟩
  · unfold f_X11_person f_X12_person
    rw [e1, e2, g_bx1_l, g_b2_s, if_pos rfl]
    exact Or.inr ⟨rfl, _, rfl⟩
theorem o_first (hT : g_T P S len rF rL L Fs W CC fF fT lF lT ML MF MW CM fA lA) (hR : g_R P S D len mem C M 0) (x y : Int32) : g_ag (f_X11_first x y (nI S) L Fs) (f_X12_first x y th (nI S) ML MF) := by
  obtain ⟨hP, hS, hlen, hF, hW, -, -⟩ := hT
  rcases n_song hS x with ⟨s, hs, e⟩ | ⟨e1, e2⟩
  · subst e
    have hl := hlen s hs
    unfold f_X11_first f_X12_first
    rw [(n_song_t hs hS).2, g_b2_s, if_neg n10]
    rcases n_place hS hs hl.1 hl.2.1 hl.2.2.2 y with ⟨k, hk, e, e1, e2⟩ | ⟨e1, e2⟩
    · subst e
      have e3 : (8 : Int32) * nI s + nI k = nI (8 * s + k) := by
        show nI 8 * nI s + nI k = _
        rw [gs_mul, nI_add]
      rw [e1, e2, g_bx1_r, g_b2_s, if_neg n10, gs_gd_t (gs_in_nI (by omega) (by decide)), nI_clamp (by omega), g_noteAt _ (by omega), gs_b1_s, e3, gs_gd_t (gs_in_nI (by omega) (by decide)), nI_clamp (by omega), (hF s hs k hk).1]
      exact Or.inl ⟨_, rfl, rfl⟩
    · rw [e1, e2, g_bx1_l, g_b2_s, if_pos rfl]
      exact Or.inr ⟨rfl, _, rfl⟩
  · unfold f_X11_first f_X12_first
    rw [n_place_s e1, e2, g_bx1_l, g_b2_s, if_pos rfl]
    exact Or.inr ⟨rfl, _, rfl⟩
theorem o_has (hT : g_T P S len rF rL L Fs W CC fF fT lF lT ML MF MW CM fA lA) (hR : g_R P S D len mem C M 0) (x y z : Int32) : g_ag (f_X11_has x y z (nI S) (nI P) L Fs C) (f_X12_has x y z th (nI S) (nI P) ML MF M) := by
  obtain ⟨hP, hS, hlen, hF, hW, -, -⟩ := hT
  rcases n_person hP x with ⟨p, hp, e⟩ | ⟨e1, e2⟩
  · subst e
    unfold f_X11_has f_X12_has
    rw [(n_person_t hp hP).1, (n_person_t hp hP).2, g_bx1_r, g_b2_s, if_neg n10]
    rcases n_song hS y with ⟨s, hs, e⟩ | ⟨e1, e2⟩
    · subst e
      have hl := hlen s hs
      have hc0 := hR.2.1 p hp s hs
      have hH := v_H hR hp hs
      have hh : f_X12_doesHave 0 (nI p) (nI s) M = some (if m_H M 0 p s = true then 1 else 0) := m_has (b := 0) (by omega) (by omega) (by omega) M
      rw [(n_song_t hs hS).1, (n_song_t hs hS).2, g_bx1_r, g_b2_s, if_neg n10, g_notes (by omega) (by omega), gs_b1_s]
      rcases n_in 6 (by omega) z with ⟨k, hk, e⟩ | ⟨hx, hw⟩
      · have hc : k = 0 ∨ k = 1 ∨ k = 2 ∨ k = 3 ∨ k = 4 ∨ k = 5 ∨ k = 6 := by omega
        subst e
        rw [show f_X12_isWhat (nI k) 6 0 = some (1, 0) from (n_what_t (m := 6) hk (by omega)).2, g_b2_s, if_neg n10, hh, gs_b1_s]
        rcases hc with h | h | h | h | h | h | h <;> subst h
        · show g_ag (if (0 : Int32) = 0 then _ else _) (if (0 : Int32) = 0 then _ else _)
          rw [if_pos (by decide), if_pos (by decide)]
          rw [g_holdsB (by omega) (by omega), gs_b1_s, hH]
          by_cases q : m_H M 0 p s = true
          · rw [if_pos q, if_neg (by decide), if_neg (by decide)]
            exact Or.inl ⟨_, rfl, rfl⟩
          · rw [if_neg q, if_pos rfl, if_pos rfl]
            exact Or.inl ⟨_, rfl, rfl⟩
        · show g_ag (if (1 : Int32) = 0 then _ else _) (if (1 : Int32) = 0 then _ else _)
          rw [if_neg (by decide), if_pos (by decide), if_neg (by decide), if_pos (by decide)]
          rw [g_gapBits _ (by omega) hl.1 hl.2.2.2, gs_b1_s]
          by_cases q : m_H M 0 p s = true
          · have e := m_gapsIn (M := M) (L := ML) (b := 0) (p := p) (s := s) (by omega) (by omega) (by omega) hl.2.1 hl.2.2.2
            rw [nI_0] at e
            rw [if_pos q, if_neg n10, e, gs_b1_s, if_neg (g_H_iff.mp (hH.trans q)), v_gaps hR hp hs hl.2.2.2]
            exact Or.inl ⟨_, rfl, rfl⟩
          · have q2 : C (8 + 5 * p + s) = -1 := Decidable.byContradiction (fun z => q (hH.symm.trans (g_H_iff.mpr z)))
            rw [if_neg q, if_pos rfl, if_pos q2]
            exact Or.inl ⟨_, rfl, rfl⟩
        · show g_ag (if (2 : Int32) = 0 then _ else _) (if (2 : Int32) = 0 then _ else _)
          rw [if_neg (by decide), if_neg (by decide), if_pos (by decide), if_neg (by decide), if_neg (by decide), if_pos (by decide)]
          rw [g_likeFirst _ (by omega) hl.1 hl.2.2.2, gs_b1_s]
          by_cases q : m_H M 0 p s = true
          · have e := m_likeIn (M := M) (L := ML) (F := MF) (b := 0) (p := p) (s := s) (by omega) (by omega) (by omega) hl.2.1 hl.2.2.2
            rw [nI_0] at e
            rw [if_pos q, if_neg (by decide), e, gs_b1_s, v_like hR hp hs hl.2.2.2 (hF s hs)]
            exact Or.inl ⟨_, rfl, rfl⟩
          · have q2 : C (8 + 5 * p + s) = -1 := Decidable.byContradiction (fun z => q (hH.symm.trans (g_H_iff.mpr z)))
            rw [if_neg q, if_pos rfl, q2, v_like0 hl.2.2.2 (hF s hs)]
            exact Or.inl ⟨_, rfl, rfl⟩
        · show g_ag (if (3 : Int32) = 0 then _ else _) (if (3 : Int32) = 0 then _ else _)
          rw [if_neg (by decide), if_neg (by decide), if_neg (by decide), if_pos (by decide), if_neg (by decide), if_neg (by decide), if_neg (by decide), if_pos (by decide)]
          have e := hc0.2.2.1
          rw [Nat.zero_add] at e
          rw [g_teacher (by omega) (by omega), gs_b1_s, m_ixT0, gs_gd_t (gs_in_nI (by omega) (by decide)), nI_clamp (by omega), e]
          exact Or.inl ⟨_, rfl, rfl⟩
        · show g_ag (if (4 : Int32) = 0 then _ else _) (if (4 : Int32) = 0 then _ else _)
          rw [if_neg (by decide), if_neg (by decide), if_neg (by decide), if_neg (by decide), if_pos (by decide), if_neg (by decide), if_neg (by decide), if_neg (by decide), if_neg (by decide), if_pos (by decide)]
          have e := m_pupils (M := M) (b := 0) (s := s) (nI p) (by omega) (by omega) hP
          rw [nI_0] at e
          rw [g_pupils _ (by omega) hP, gs_b1_s, e, gs_b1_s, g_mk_cong (h := fun o => M (0 + 316 + 5 * o + s) == nI p) (fun o ho => by rw [(hR.2.1 o ho s hs).2.2.1])]
          exact Or.inl ⟨_, rfl, rfl⟩
        · show g_ag (if (5 : Int32) = 0 then _ else _) (if (5 : Int32) = 0 then _ else _)
          rw [if_neg (by decide), if_neg (by decide), if_neg (by decide), if_neg (by decide), if_neg (by decide), if_pos (by decide), if_neg (by decide), if_neg (by decide), if_neg (by decide), if_neg (by decide), if_neg (by decide), if_pos (by decide)]
          obtain ⟨r, r1, r2⟩ := v_gen hR hP hS hp hs
          rw [r1, r2, gs_b1_s, gs_b1_s]
          exact Or.inl ⟨_, rfl, rfl⟩
        · show g_ag (if (6 : Int32) = 0 then _ else _) (if (6 : Int32) = 0 then _ else _)
          rw [if_neg (by decide), if_neg (by decide), if_neg (by decide), if_neg (by decide), if_neg (by decide), if_neg (by decide), if_pos (by decide), if_neg (by decide), if_neg (by decide), if_neg (by decide), if_neg (by decide), if_neg (by decide), if_neg (by decide)]
          obtain ⟨r, r1, r2⟩ := v_taughtBy hR hP hS hp hs
          rw [r1, r2, gs_b1_s, gs_b1_s]
          exact Or.inl ⟨_, rfl, rfl⟩
      · rw [if_neg (show ¬ z = 0 from hx 0 (by omega)), if_neg (show ¬ z = 1 from hx 1 (by omega)), if_neg (show ¬ z = 2 from hx 2 (by omega)), if_neg (show ¬ z = 3 from hx 3 (by omega)), if_neg (show ¬ z = 4 from hx 4 (by omega)), if_neg (show ¬ z = 5 from hx 5 (by omega)), if_neg (show ¬ z = 6 from hx 6 (by omega))]
        have e3 : f_X12_isWhat z 6 0 = some (0, 1) := by
          unfold f_X12_isWhat
          rw [show f_X12_within z 0 6 = some 0 from hw]
          rfl
        rw [e3, g_b2_s, if_pos rfl]
        exact Or.inr ⟨rfl, _, rfl⟩
    · rw [e1, e2, g_bx1_l, g_b2_s, if_pos rfl]
      exact Or.inr ⟨rfl, _, rfl⟩
  · unfold f_X11_has f_X12_has
    rw [e1, e2, g_bx1_l, g_b2_s, if_pos rfl]
    exact Or.inr ⟨rfl, _, rfl⟩
theorem o_of (hT : g_T P S len rF rL L Fs W CC fF fT lF lT ML MF MW CM fA lA) (hR : g_R P S D len mem C M 0) (x y z : Int32) : g_ag (f_X11_of x y z (nI S) (nI P) L C) (f_X12_of x y z th (nI S) (nI P) ML M) := by
  obtain ⟨hP, hS, hlen, hF, hW, -, -⟩ := hT
  rcases n_person hP x with ⟨p, hp, e⟩ | ⟨e1, e2⟩
  · subst e
    unfold f_X11_of f_X12_of
    rw [(n_person_t hp hP).1, (n_person_t hp hP).2, g_bx1_r, g_b2_s, if_neg n10]
    rcases n_song hS y with ⟨s, hs, e⟩ | ⟨e1, e2⟩
    · subst e
      have hl := hlen s hs
      have hH := v_H hR hp hs
      have hh : f_X12_doesHave 0 (nI p) (nI s) M = some (if m_H M 0 p s = true then 1 else 0) := m_has (b := 0) (by omega) (by omega) (by omega) M
      rw [(n_song_t hs hS).1, (n_song_t hs hS).2, g_bx1_r, g_b2_s, if_neg n10]
      rcases n_what3 z with ⟨k, hk, e, e1, e2⟩ | ⟨e1, e2⟩
      · subst e
        rw [e1, e2, g_bx1_r, g_b2_s, if_neg n10]
        have hc : k = 0 ∨ k = 1 ∨ k = 2 := by omega
        rcases hc with h | h | h <;> subst h
        · obtain ⟨r, r1, r2⟩ := v_origin hR hP hS hp hs
          rw [if_pos nI_0, if_pos nI_0, r1, r2, gs_b1_s, gs_b1_s]
          exact Or.inl ⟨_, rfl, rfl⟩
        · rw [if_neg (by decide), if_neg (by decide), g_holdsB (by omega) (by omega), gs_b1_s, hh, gs_b1_s, hH]
          by_cases q : m_H M 0 p s = true
          · obtain ⟨r, r1, r2⟩ := v_changes hR hP hS hp hs hl.1 hl.2.1 hl.2.2.2
            rw [if_pos q, if_neg (by decide), if_neg (by decide), g_notes (by omega) (by omega), gs_b1_s, if_pos (by decide), if_pos (by decide), r1, r2, gs_b1_s, gs_b1_s]
            exact Or.inl ⟨_, rfl, rfl⟩
          · rw [if_neg q, if_pos rfl, if_pos rfl]
            exact Or.inl ⟨_, rfl, rfl⟩
        · rw [if_neg (by decide), if_neg (by decide), g_holdsB (by omega) (by omega), gs_b1_s, hh, gs_b1_s, hH]
          by_cases q : m_H M 0 p s = true
          · obtain ⟨r, r1, r2⟩ := v_highest hR hP hS hp hs hl.1 hl.2.1 hl.2.2.2
            rw [if_pos q, if_neg (by decide), if_neg (by decide), g_notes (by omega) (by omega), gs_b1_s, if_neg (by decide), if_neg (by decide), r1, r2, gs_b1_s, gs_b1_s]
            exact Or.inl ⟨_, rfl, rfl⟩
          · rw [if_neg q, if_pos rfl, if_pos rfl]
            exact Or.inl ⟨_, rfl, rfl⟩
      · rw [e1, e2, g_bx1_l, g_b2_s, if_pos rfl]
        exact Or.inr ⟨rfl, _, rfl⟩
    · rw [e1, e2, g_bx1_l, g_b2_s, if_pos rfl]
      exact Or.inr ⟨rfl, _, rfl⟩
  · unfold f_X11_of f_X12_of
    rw [e1, e2, g_bx1_l, g_b2_s, if_pos rfl]
    exact Or.inr ⟨rfl, _, rfl⟩
theorem o_agreed (hT : g_T P S len rF rL L Fs W CC fF fT lF lT ML MF MW CM fA lA) (hR : g_R P S D len mem C M 0) (x y : Int32) : g_ag (f_X11_agreed x y (nI S) (nI P) L C) (f_X12_agreed x y th (nI S) (nI P) ML M) := by
  obtain ⟨hP, hS, hlen, hF, hW, -, -⟩ := hT
  rcases n_song hS x with ⟨s, hs, e⟩ | ⟨e1, e2⟩
  · subst e
    have hl := hlen s hs
    unfold f_X11_agreed f_X12_agreed
    rw [(n_song_t hs hS).2, g_b2_s, if_neg n10]
    rcases n_place hS hs hl.1 hl.2.1 hl.2.2.2 y with ⟨k, hk, e, e1, e2⟩ | ⟨e1, e2⟩
    · subst e
      obtain ⟨r, r1, r2⟩ := v_agreed hR hP hS hs (k := k) (by omega) 0
      rw [e1, e2, g_bx1_r, g_b2_s, if_neg n10, r1, r2, gs_b1_s]
      exact Or.inl ⟨_, rfl, rfl⟩
    · rw [e1, e2, g_bx1_l, g_b2_s, if_pos rfl]
      exact Or.inr ⟨rfl, _, rfl⟩
  · unfold f_X11_agreed f_X12_agreed
    rw [n_place_s e1, e2, g_bx1_l, g_b2_s, if_pos rfl]
    exact Or.inr ⟨rfl, _, rfl⟩
end Q1
