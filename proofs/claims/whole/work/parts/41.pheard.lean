/-! ===== pure rows: hear, forget, image, restore, feed ===== -/
def g_E (P S : Nat) (len : Nat → Nat) (hc : Int32) (HR : Nat → Int32) (hm : Int32) (HM : Nat → Int32) : Prop :=
  ∃ m : Nat, m ≤ 8 ∧ hc = nI m ∧ hm = nI m ∧ ∀ i, i < m → ∃ p s k n : Nat, p < P ∧ s < S ∧ k < len s ∧ n ≤ 20 ∧ HR (5 * i) = nI p ∧ HR (5 * i + 1) = nI s ∧ HR (5 * i + 2) = nI k ∧ HR (5 * i + 3) = nI n ∧ HM (5 * i) = nI (1 + 40 * p + 8 * s + k) ∧ HM (5 * i + 1) = nI n ∧ HM (5 * i + 2) = HR (5 * i + 4)
theorem g_E.cong {P S : Nat} {len : Nat → Nat} {hc hm : Int32} {HR HM HR' HM' : Nat → Int32} (h : g_E P S len hc HR hm HM) (h1 : ∀ j, j < 40 → HR' j = HR j) (h2 : ∀ j, j < 40 → HM' j = HM j) : g_E P S len hc HR' hm HM' := by
  obtain ⟨m, h8, e1, e2, hr⟩ := h
  refine ⟨m, h8, e1, e2, fun i hi => ?_⟩
  rw [h1 (5 * i) (by omega), h1 (5 * i + 1) (by omega), h1 (5 * i + 2) (by omega), h1 (5 * i + 3) (by omega), h1 (5 * i + 4) (by omega), h2 (5 * i) (by omega), h2 (5 * i + 1) (by omega), h2 (5 * i + 2) (by omega)]
  exact hr i hi
theorem e_refuse {a b : Nat → Int32} (h : g_rf a b) : ∃ b', f_X12_refuses 2 b = some (-1, b') ∧ g_rf (upd a 2 (a 2 + 1)) b' := by
  unfold f_X12_refuses
  rw [gs_gd_t (by decide), gs_gd_t (by decide), tc2]
  refine ⟨_, rfl, fun i hi => ?_⟩
  unfold upd
  rw [h 2 (by omega)]
  split
  · rfl
  · exact h i hi
section OE
variable {P S : Nat} {len mem : Nat → Nat} {rF rL : Option (List Nat)} {C M L Fs W CC ML MF MW CM mems rf AR rfM AH HR HM : Nat → Int32} {fF fT lF lT fA lA pr pm th ol mn ac hc hm : Int32}
theorem e_41 (hE : g_E P S len hc HR hm HM) (hrf : g_rf rf rfM) (x1 x2 x3 x4 x5 : Int32) : ∃ rf' rfM', f_X11_hear_41 0 x1 x2 x3 x4 x5 rf hc HR = some (-1, rf', hc, HR) ∧ f_X12_hear_63 0 hm rfM HM = some (-1, 0, hm, rfM', HM) ∧ g_rf rf' rfM' := by
  obtain ⟨b', r2, hrf'⟩ := e_refuse hrf
  unfold f_X11_hear_41 f_X12_hear_63
  rw [if_pos rfl, gs_gd_t (by decide), gs_gd_t (by decide), tc2, r2, g_b2_s]
  exact ⟨_, _, rfl, rfl, hrf'⟩
theorem o_hear (hT : g_T P S len rF rL L Fs W CC fF fT lF lT ML MF MW CM fA lA) (hE : g_E P S len hc HR hm HM) (hrf : g_rf rf rfM) (x y z w n : Int32) :
    (∃ v rf' hc' HR' hm' rfM' HM', f_X11_hear x y z w n rf (nI S) (nI P) L hc HR = some (.inr (v, rf', hc', HR')) ∧ f_X12_hear x y z w n th (nI S) (nI P) hm ML rfM HM = some (v, 0, hm', rfM', HM') ∧ g_E P S len hc' HR' hm' HM' ∧ g_rf rf' rfM') ∨
    (f_X11_hear x y z w n rf (nI S) (nI P) L hc HR = some (.inl 1) ∧ ∃ v, f_X12_hear x y z w n th (nI S) (nI P) hm ML rfM HM = some (v, 1, hm, rfM, HM)) := by
  obtain ⟨hP, hS, hlen, hF, hW, -, -⟩ := id hT
  unfold f_X11_hear f_X12_hear
  rcases n_person hP x with ⟨p, hp, e⟩ | ⟨e1, e2⟩
  · subst e
    rw [(n_person_t hp hP).1, (n_person_t hp hP).2, g_bx1_r, g_b2_s, if_neg n10]
    rcases n_song hS y with ⟨s, hs, e⟩ | ⟨e1, e2⟩
    · subst e
      have hl := hlen s hs
      rw [(n_song_t hs hS).2, g_b2_s, if_neg n10]
      rcases n_place hS hs hl.1 hl.2.1 hl.2.2.2 z with ⟨k, hk, e, e1, e2⟩ | ⟨e1, e2⟩
      · subst e
        rw [e1, e2, g_bx1_r, g_b2_s, if_neg n10]
        left
        obtain ⟨rf', rfM', j1, j2, hrf'⟩ := e_41 hE hrf (nI p) (nI s) (nI k) w n
        have no : ∃ v rf2 hc2 HR2 hm2 rfM2 HM2, gs_rt (f_X11_hear_41 0 (nI p) (nI s) (nI k) w n rf hc HR) = some (.inr (v, rf2, hc2, HR2)) ∧ f_X12_hear_63 0 hm rfM HM = some (v, 0, hm2, rfM2, HM2) ∧ g_E P S len hc2 HR2 hm2 HM2 ∧ g_rf rf2 rfM2 := by
          rw [j1, j2]
          exact ⟨_, _, _, _, _, _, _, rfl, rfl, hE, hrf'⟩
        unfold f_X12_within
        by_cases c1 : w < 0
        · rw [if_pos c1, if_pos c1, gs_b1_s, if_pos rfl]
          have : (if hm = 8 then f_X12_hear_63 0 hm rfM HM else f_X12_hear_63 0 hm rfM HM) = f_X12_hear_63 0 hm rfM HM := by split <;> rfl
          rw [this]
          exact no
        · rw [if_neg c1, if_neg c1]
          by_cases c2 : (20 : Int32) < w
          · rw [if_pos c2, if_pos c2, gs_b1_s, if_pos rfl]
            have : (if hm = 8 then f_X12_hear_63 0 hm rfM HM else f_X12_hear_63 0 hm rfM HM) = f_X12_hear_63 0 hm rfM HM := by split <;> rfl
            rw [this]
            exact no
          · rw [if_neg c2, if_neg c2, gs_b1_s, if_neg n10]
            by_cases c3 : n < -1
            · rw [if_pos c3, if_pos c3, gs_b1_s, if_pos rfl]
              have : (if hm = 8 then f_X12_hear_63 0 hm rfM HM else f_X12_hear_63 0 hm rfM HM) = f_X12_hear_63 0 hm rfM HM := by split <;> rfl
              rw [this]
              exact no
            · rw [if_neg c3, if_neg c3]
              by_cases c4 : (9 : Int32) < n
              · rw [if_pos c4, if_pos c4, gs_b1_s, if_pos rfl]
                have : (if hm = 8 then f_X12_hear_63 0 hm rfM HM else f_X12_hear_63 0 hm rfM HM) = f_X12_hear_63 0 hm rfM HM := by split <;> rfl
                rw [this]
                exact no
              · obtain ⟨d, hd, e⟩ : ∃ d, d ≤ 20 ∧ w = nI d := nI_of2 (M := 20) rfl c1 (n_le c2)
                subst e
                obtain ⟨m, h8, q1, q2, hr⟩ := id hE
                subst q1 q2
                rw [if_neg c4, if_neg c4, gs_b1_s, if_neg n10]
                unfold f_X11_hear_41 f_X3_put f_X3_size
                rw [if_neg n10]
                rcases Nat.lt_or_ge m 8 with hm8 | hm8
                · have i0 : nI m * 5 = nI (5 * m) := by
                    show nI m * nI 5 = _
                    rw [pk_mul, Nat.mul_comm]
                  have i0' : 5 * nI m = nI (5 * m) := pk_mul 5 m
                  have i1 : nI (5 * m) + 1 = nI (5 * m + 1) := nI_add _ 1
                  have i2 : nI (5 * m) + 2 = nI (5 * m + 2) := nI_add _ 2
                  have i3 : nI (5 * m) + 3 = nI (5 * m + 3) := nI_add _ 3
                  have i4 : nI (5 * m) + 4 = nI (5 * m + 4) := nI_add _ 4
                  rw [if_pos (show nI m < 8 from nI_lt (b := 8) hm8 (by omega)), if_neg (show ¬ nI m = 8 from fun q => by have := (nI_eq (a := m) (b := 8) (by omega) (by omega)).mp q; omega), i0, i0', i1, i2, i3, i4, gs_gd_t (gs_in_nI (i := 5 * m) (n := 40) (by omega) (by decide)), gs_gd_t (gs_in_nI (i := 5 * m + 1) (n := 40) (by omega) (by decide)), gs_gd_t (gs_in_nI (i := 5 * m + 2) (n := 40) (by omega) (by decide)), gs_gd_t (gs_in_nI (i := 5 * m + 3) (n := 40) (by omega) (by decide)), gs_gd_t (gs_in_nI (i := 5 * m + 4) (n := 40) (by omega) (by decide)), g_b3_s, if_neg n10, gs_b1_s, m_noteAt, gs_b1_s, gs_gd_t (gs_in_nI (i := 5 * m) (n := 40) (by omega) (by decide)), gs_gd_t (gs_in_nI (i := 5 * m + 1) (n := 40) (by omega) (by decide)), gs_gd_t (gs_in_nI (i := 5 * m + 2) (n := 40) (by omega) (by decide)), nI_clamp (n := 5 * m) (by omega), nI_clamp (n := 5 * m + 1) (by omega), nI_clamp (n := 5 * m + 2) (by omega), nI_clamp (n := 5 * m + 3) (by omega), nI_clamp (n := 5 * m + 4) (by omega), nI_1]
                  refine ⟨_, _, _, _, _, _, _, rfl, rfl, ⟨m + 1, by omega, rfl, rfl, fun i hi => ?_⟩, hrf⟩
                  rcases Nat.lt_or_ge i m with h1 | h1
                  · obtain ⟨p', s', k', n', b1, b2, b3, b4, b5, b6, b7, b8, b9, b10, b11⟩ := hr i h1
                    refine ⟨p', s', k', n', b1, b2, b3, b4, ?_, ?_, ?_, ?_, ?_, ?_, ?_⟩
                    · rw [pk_un (by omega), pk_un (by omega), pk_un (by omega), pk_un (by omega), pk_un (by omega)]; exact b5
                    · rw [pk_un (by omega), pk_un (by omega), pk_un (by omega), pk_un (by omega), pk_un (by omega)]; exact b6
                    · rw [pk_un (by omega), pk_un (by omega), pk_un (by omega), pk_un (by omega), pk_un (by omega)]; exact b7
                    · rw [pk_un (by omega), pk_un (by omega), pk_un (by omega), pk_un (by omega), pk_un (by omega)]; exact b8
                    · rw [pk_un (by omega), pk_un (by omega), pk_un (by omega)]; exact b9
                    · rw [pk_un (by omega), pk_un (by omega), pk_un (by omega)]; exact b10
                    · rw [pk_un (by omega), pk_un (by omega), pk_un (by omega), pk_un (by omega), pk_un (by omega), pk_un (by omega), pk_un (by omega), pk_un (by omega)]; exact b11
                  · have e : i = m := by omega
                    subst e
                    refine ⟨p, s, k, d, hp, hs, hk, hd, ?_, ?_, ?_, ?_, ?_, ?_, ?_⟩
                    · rw [pk_un (by omega), pk_un (by omega), pk_un (by omega), pk_un (by omega), pk_us]
                    · rw [pk_un (by omega), pk_un (by omega), pk_un (by omega), pk_us]
                    · rw [pk_un (by omega), pk_un (by omega), pk_us]
                    · rw [pk_un (by omega), pk_us]
                    · rw [pk_un (by omega), pk_un (by omega), pk_us]
                    · rw [pk_un (by omega), pk_us]
                    · rw [pk_us, pk_us]
                · have e : m = 8 := by omega
                  subst e
                  obtain ⟨b', r2, hrf2⟩ := e_refuse hrf
                  rw [if_neg (by decide), g_b3_s, if_pos rfl, gs_gd_t (by decide), gs_gd_t (by decide), tc2, if_pos (show nI 8 = 8 from rfl)]
                  unfold f_X12_hear_63
                  rw [r2, g_b2_s]
                  exact ⟨_, _, _, _, _, _, _, rfl, rfl, hE, hrf2⟩
      · rw [e1, e2, g_bx1_l, g_b2_s, if_pos rfl]
        exact Or.inr ⟨rfl, _, rfl⟩
    · rw [n_place_s e1, e2, g_bx1_l, g_b2_s, if_pos rfl]
      exact Or.inr ⟨rfl, _, rfl⟩
  · rw [e1, e2, g_bx1_l, g_b2_s, if_pos rfl]
    exact Or.inr ⟨rfl, _, rfl⟩
theorem e_copyFrom (m : Int32) (a : Nat → Int32) (m1 : Int32) (a1 : Nat → Int32) : f_X3_copyFrom m a m1 a1 = some (m1, g_cpy a1 a 0 40) := by
  unfold f_X3_copyFrom
  rw [gs_gd_t (by decide)]
  have e0 : (0 : Int32).toNatClampNeg = 0 := rfl
  have e1 : (40 : Int32).toNatClampNeg = 40 := rfl
  rw [e0, e1]
  refine congrArg (fun z => some (m1, z)) (funext fun j => ?_)
  simp only [va_cpy, g_cpy, Nat.zero_add, Nat.sub_zero]
theorem o_image (hR : g_R P S 9999 len mem C M 0) (hA : g_A P S len mem ol mn AR ac AH) (hE : g_E P S len hc HR hm HM) (hP : P ≤ 7) (hS : S ≤ 5) (im : Int32) (iC : Nat → Int32) (iol imn : Int32) (iAR : Nat → Int32) (ihc : Int32) (iHR : Nat → Int32) (hi ia ih : Int32) (iM iAH iHM : Nat → Int32) :
    ∃ C' AR' HR' M' AH' HM', f_X11_image im C ol mn AR hc HR iC iol imn iAR ihc iHR = some (1, C', ol, mn, AR', hc, HR') ∧ f_X12_image th ac hm hi ia ih M AH HM iM iAH iHM = some (0, 1, ac, hm, M', AH', HM') ∧ g_R P S 9999 len mem C' M' 0 ∧ g_A P S len mem ol mn AR' ac AH' ∧ g_E P S len hc HR' hm HM' := by
  unfold f_X11_image f_X12_image
  rw [g_copyRow, gs_b1_s, a_copyFrom, g_b3_s, e_copyFrom, g_b2_s]
  have hl : gs_it (fun _ _ => none) (f_X12_image_28 0 1 ac hm M AH HM iAH iHM (fun (r_t_imageRow' : Nat → Int32) => f_X12_image_53 0 1 ac hm AH HM r_t_imageRow' iAH iHM)) gs_fuel 0 iM = some (0, 1, ac, hm, g_cpy M iM 0 372, g_cpy AH iAH 0 14880, g_cpy HM iHM 0 40) := by
    refine g_lb 372 (fun i => g_cpy M iM 0 i) (by omega) (g_cpy_0 _ _ _) (fun K i hi => ?_) (fun K => ?_)
    · unfold f_X12_image_28
      have e3 := g_cpy_s M iM 0 i
      rw [Nat.zero_add] at e3
      rw [if_neg (show ¬ (372 : Int32) ≤ nI i from nI_ge (b := 372) hi (by decide)), gs_gd_t (gs_in_nI (by omega) (by decide)), gs_gd_t (gs_in_nI (by omega) (by decide)), nI_clamp (by omega), nI_1, e3]
    · unfold f_X12_image_28
      rw [if_pos (show (372 : Int32) ≤ nI 372 from nI_le (a := 372) (Nat.le_refl _) (by decide))]
      show f_X12_image_53 0 1 ac hm AH HM (g_cpy M iM 0 372) iAH iHM = _
      unfold f_X12_image_53
      rw [a_copies (by omega), gs_b1_s, a_copies (by omega), gs_b1_s]
  rw [hl]
  refine ⟨_, _, _, _, _, _, rfl, rfl, hR.cong hP hS (fun j hj => ?_) (fun j hj => ?_), hA.cong hP hS (fun j hj => ?_) (fun j hj => ?_), hE.cong (fun j hj => ?_) (fun j hj => ?_)⟩
  · rw [g_cpy_in (by omega) (by omega), Nat.sub_zero]
  · rw [g_cpy_in (by omega) (by omega), Nat.sub_zero]
  · rw [g_cpy_in (by omega) (by omega), Nat.sub_zero]
  · rw [g_cpy_in (by omega) (by omega), Nat.sub_zero]
  · rw [g_cpy_in (by omega) (by omega), Nat.sub_zero]
  · rw [g_cpy_in (by omega) (by omega), Nat.sub_zero]
theorem o_restore (hP : P ≤ 7) (hS : S ≤ 5) {iC iAR iHR iM iAH iHM : Nat → Int32} {iol imn ihc ia ih im hi : Int32} (hI : (im = 0 ∧ hi = 0) ∨ (im = 1 ∧ hi = 1 ∧ g_R P S 9999 len mem iC iM 0 ∧ g_A P S len mem iol imn iAR ia iAH ∧ g_E P S len ihc iHR ih iHM)) (hR : g_R P S 9999 len mem C M 0) (hA : g_A P S len mem ol mn AR ac AH) (hE : g_E P S len hc HR hm HM) :
    ∃ v C' ol' mn' AR' hc' HR' ac' hm' M' AH' HM', f_X11_restore im C ol mn AR hc HR iC iol imn iAR ihc iHR = some (v, C', ol', mn', AR', hc', HR') ∧ f_X12_restore th ac hm hi ia ih M AH HM iM iAH iHM = some (v, 0, ac', hm', M', AH', HM') ∧ g_R P S 9999 len mem C' M' 0 ∧ g_A P S len mem ol' mn' AR' ac' AH' ∧ g_E P S len hc' HR' hm' HM' := by
  unfold f_X11_restore f_X12_restore
  rcases hI with ⟨h1, h2⟩ | ⟨h1, h2, hR', hA', hE'⟩
  · rw [if_pos h1, if_pos h2]
    exact ⟨_, _, _, _, _, _, _, _, _, _, _, _, rfl, rfl, hR, hA, hE⟩
  · rw [if_neg (by rw [h1]; decide), if_neg (by rw [h2]; decide), g_copyRow, gs_b1_s, a_copyFrom, g_b3_s, e_copyFrom, g_b2_s]
    have hl : gs_it (fun _ _ => none) (f_X12_restore_32 0 ia ih AH HM iM iAH iHM (fun (r_t_rows' : Nat → Int32) => f_X12_restore_57 0 ia ih r_t_rows' AH HM iAH iHM)) gs_fuel 0 M = some (1, 0, ia, ih, g_cpy iM M 0 372, g_cpy iAH AH 0 14880, g_cpy iHM HM 0 40) := by
      refine g_lb 372 (fun i => g_cpy iM M 0 i) (by omega) (g_cpy_0 _ _ _) (fun K i hi => ?_) (fun K => ?_)
      · unfold f_X12_restore_32
        have e3 := g_cpy_s iM M 0 i
        rw [Nat.zero_add] at e3
        rw [if_neg (show ¬ (372 : Int32) ≤ nI i from nI_ge (b := 372) hi (by decide)), gs_gd_t (gs_in_nI (by omega) (by decide)), gs_gd_t (gs_in_nI (by omega) (by decide)), nI_clamp (by omega), nI_1, e3]
      · unfold f_X12_restore_32
        rw [if_pos (show (372 : Int32) ≤ nI 372 from nI_le (a := 372) (Nat.le_refl _) (by decide))]
        show f_X12_restore_57 0 ia ih (g_cpy iM M 0 372) AH HM iAH iHM = _
        unfold f_X12_restore_57
        rw [a_copies (by omega), gs_b1_s, a_copies (by omega), gs_b1_s]
    rw [hl]
    refine ⟨_, _, _, _, _, _, _, _, _, _, _, _, rfl, rfl, hR'.cong hP hS (fun j hj => ?_) (fun j hj => ?_), hA'.cong hP hS (fun j hj => ?_) (fun j hj => ?_), hE'.cong (fun j hj => ?_) (fun j hj => ?_)⟩
    · rw [g_cpy_in (by omega) (by omega), Nat.sub_zero]
    · rw [g_cpy_in (by omega) (by omega), Nat.sub_zero]
    · rw [g_cpy_in (by omega) (by omega), Nat.sub_zero]
    · rw [g_cpy_in (by omega) (by omega), Nat.sub_zero]
    · rw [g_cpy_in (by omega) (by omega), Nat.sub_zero]
    · rw [g_cpy_in (by omega) (by omega), Nat.sub_zero]
end OE
/-! ===== the tape ===== -/
/-- both tapes have the same n bytes -/
def g_tp (n : Nat) (tC tM : Nat → Int32) : Prop := ∀ j, j < n → ∃ c, c < 256 ∧ tC j = sb_b c ∧ tM j = nI c
theorem t_ushr (x : Int32) {k : Nat} (hk : k < 32) : (gs_ushr x (nI k)).toBitVec.toNat = x.toBitVec.toNat / 2 ^ k := by
  unfold gs_ushr
  have hs : ∀ k, k < 32 → (((nI k).toUInt32 &&& Int32.toUInt32 31).toBitVec % 32).toNat = k := by decide +kernel
  exact pk_ushr x (nI k) k (hs k hk)
theorem t_i8 (z : Int32) : z.toInt8.toInt32 = sb_b (z.toBitVec.toNat % 256) := by
  unfold sb_b
  refine congrArg Int8.toInt32 ?_
  apply Int8.toBitVec_inj.1
  apply BitVec.eq_of_toInt_eq
  have h1 : ∀ y : Int32, y.toInt8.toBitVec.toInt = (y.toBitVec.toNat : Int).bmod 256 := by
    intro y
    have e1 : y.toInt8.toBitVec.toInt = y.toInt.bmod (2 ^ 8) := Int32.toInt_toInt8 y
    have e2 : y.toInt = (y.toBitVec.toNat : Int).bmod (2 ^ 32) := BitVec.toInt_eq_toNat_bmod y.toBitVec
    rw [e1, e2, Int.bmod_bmod_of_dvd (show (2 : Nat) ^ 8 ∣ 2 ^ 32 from ⟨2 ^ 24, rfl⟩)]
  rw [h1, h1, pk_tn (Nat.lt_trans (Nat.mod_lt _ (by decide)) (by decide))]
  have e3 : ((z.toBitVec.toNat % 256 : Nat) : Int) = (z.toBitVec.toNat : Int) % (256 : Nat) := Int.natCast_emod _ _
  rw [e3, Int.emod_bmod]
theorem t_shrG (x m : Int32) {k j : Nat} (hk : k + j ≤ 32) (hk2 : k < 32) (hm : m.toBitVec.toNat = 2 ^ j - 1) : (x >>> (nI k &&& 31)) &&& m = nI (x.toBitVec.toNat / 2 ^ k % 2 ^ j) := by
  rw [pk_and _ j hm]
  refine congrArg nI ?_
  apply Nat.eq_of_testBit_eq
  intro i
  rw [Nat.testBit_mod_two_pow, Nat.testBit_mod_two_pow, Nat.testBit_div_two_pow]
  rcases Nat.lt_or_ge i j with hi | hi
  · have e : (x >>> (nI k &&& 31)).toBitVec = x.toBitVec.sshiftRight k := by
      rw [Int32.toBitVec_shiftRight]
      show x.toBitVec.sshiftRight ((nI k &&& 31).toBitVec.smod 32).toNat = _
      rw [s_l k hk2]
    rw [e]
    have e2 : (x.toBitVec.sshiftRight k).getLsbD i = x.toBitVec.getLsbD (k + i) := by
      rw [BitVec.getLsbD_sshiftRight]
      simp [show ¬ 32 ≤ i by omega, show k + i < 32 by omega]
    have e3 : (x.toBitVec.sshiftRight k).toNat.testBit i = x.toBitVec.toNat.testBit (k + i) := e2
    rw [e3, Nat.add_comm k i]
  · simp [show ¬ i < j by omega]
theorem t_shr (x : Int32) {k : Nat} (hk : k ≤ 24) : (x >>> (nI k &&& 31)) &&& 255 = nI (x.toBitVec.toNat / 2 ^ k % 256) := t_shrG x 255 (j := 8) (by omega) (by omega) (by decide)
theorem t_byte (x : Int32) {k : Nat} (hk : k ≤ 24) : ∃ c, c < 256 ∧ vp_nar .byte ((gs_ushr x (nI k)).toInt8.toInt32) = sb_b c ∧ (x >>> (nI k &&& 31)) &&& 255 = nI c := by
  refine ⟨x.toBitVec.toNat / 2 ^ k % 256, Nat.mod_lt _ (by decide), ?_, t_shr x hk⟩
  rw [pk_vb, t_i8, t_ushr x (by omega)]
theorem g_tp.put {n : Nat} {tC tM : Nat → Int32} {a b : Int32} (h : g_tp n tC tM) (hb : ∃ c, c < 256 ∧ a = sb_b c ∧ b = nI c) : g_tp (n + 1) (upd tC n a) (upd tM n b) := by
  intro j hj
  rcases Nat.lt_or_ge j n with h1 | h1
  · rw [pk_un (by omega), pk_un (by omega)]
    exact h j h1
  · have e : j = n := by omega
    subst e
    rw [pk_us, pk_us]
    exact hb
theorem t_s1 (x : Int32) {n : Nat} (hn : n < 700) (tC tM : Nat → Int32) (k : Nat) (hk : 8 ≤ k) (hk2 : k ≤ 24) (K1 K2 : Int32 → Int32 → (Nat → Int32) → Option (Int32 × (Nat → Int32))) (h : g_tp n tC tM) : ∃ tC' tM', f_X11_putBytes_3 x K1 (nI k) (nI n) tC = K1 (nI (k - 8)) (nI (n + 1)) tC' ∧ f_X12_lays_3 x K2 (nI k) (nI n) tM = K2 (nI (k - 8)) (nI (n + 1)) tM' ∧ g_tp (n + 1) tC' tM' := by
  unfold f_X11_putBytes_3 f_X12_lays_3
  have e : nI k + (-8) = nI (k - 8) := by
    have := pk_sub (a := k) (b := 8) hk
    rw [← this]
    show nI k + (-8) = nI k - 8
    rw [Int32.sub_eq_add_neg]
  rw [if_neg (nI_pos (by omega)), if_neg (nI_pos (by omega)), if_neg (show ¬ (700 : Int32) ≤ nI n from nI_ge (b := 700) hn (by omega)), gs_gd_t (gs_in_nI hn (by decide)), gs_gd_t (gs_in_nI hn (by decide)), nI_clamp (by omega), nI_1, e]
  exact ⟨_, _, rfl, rfl, h.put (t_byte x hk2)⟩
theorem g_it5 {F : Type} (z : F) (b : F → F) (n : Nat) : gs_it z b (n + 5) = b (b (b (b (b (gs_it z b n))))) := rfl
theorem t_word (x : Int32) {n : Nat} (hn : n + 4 ≤ 700) {tC tM : Nat → Int32} (h : g_tp n tC tM) : ∃ tC' tM', f_X11_putBytes x (nI n) tC = some (nI (n + 4), tC') ∧ f_X12_lays x (nI n) tM = some (nI (n + 4), tM') ∧ g_tp (n + 4) tC' tM' := by
  unfold f_X11_putBytes f_X12_lays
  rw [show gs_fuel = 19995 + 5 from rfl, g_it5 (fun _ _ _ => none) (f_X11_putBytes_3 x) 19995, g_it5 (fun _ _ _ => none) (f_X12_lays_3 x) 19995]
  generalize gs_it (fun _ _ _ => none) (f_X11_putBytes_3 x) 19995 = GC
  generalize gs_it (fun _ _ _ => none) (f_X12_lays_3 x) 19995 = GM
  obtain ⟨a1, b1, c1, d1, h1⟩ := t_s1 x (n := n) (by omega) tC tM 24 (by omega) (by omega) (f_X11_putBytes_3 x (f_X11_putBytes_3 x (f_X11_putBytes_3 x (f_X11_putBytes_3 x GC)))) (f_X12_lays_3 x (f_X12_lays_3 x (f_X12_lays_3 x (f_X12_lays_3 x GM)))) h
  obtain ⟨a2, b2, c2, d2, h2⟩ := t_s1 x (n := n + 1) (by omega) a1 b1 16 (by omega) (by omega) (f_X11_putBytes_3 x (f_X11_putBytes_3 x (f_X11_putBytes_3 x GC))) (f_X12_lays_3 x (f_X12_lays_3 x (f_X12_lays_3 x GM))) h1
  obtain ⟨a3, b3, c3, d3, h3⟩ := t_s1 x (n := n + 1 + 1) (by omega) a2 b2 8 (by omega) (by omega) (f_X11_putBytes_3 x (f_X11_putBytes_3 x GC)) (f_X12_lays_3 x (f_X12_lays_3 x GM)) h2
  rw [show (24 : Int32) = nI 24 from rfl, c1, d1, show 24 - 8 = 16 from rfl, c2, d2, show 16 - 8 = 8 from rfl, c3, d3, show 8 - 8 = 0 from rfl]
  have e8 : nI 0 + (-8) < 0 := by decide
  unfold f_X11_putBytes_3 f_X12_lays_3
  rw [if_neg (show ¬ nI 0 < 0 by decide), if_neg (show ¬ nI 0 < 0 by decide), if_neg (show ¬ (700 : Int32) ≤ nI (n + 1 + 1 + 1) from nI_ge (b := 700) (by omega) (by omega)), gs_gd_t (gs_in_nI (by omega) (by decide)), gs_gd_t (gs_in_nI (by omega) (by decide)), nI_clamp (by omega), nI_1, if_pos e8, if_pos e8]
  exact ⟨_, _, rfl, rfl, h3.put (t_byte x (k := 0) (by omega))⟩
theorem o_feed {n : Nat} (hn : n ≤ 700) {tC tM : Nat → Int32} (h : g_tp n tC tM) (th a b c d e : Int32) : ∃ v n' tC' tM', n' ≤ 700 ∧ f_X11_feed a b c d e (nI n) tC = some (v, nI n', tC') ∧ f_X12_feed a b c d e th (nI n) tM = some (v, 0, nI n', tM') ∧ g_tp n' tC' tM' := by
  unfold f_X11_feed f_X12_feed
  rw [show nI n + 20 = nI (n + 20) from nI_add n 20]
  by_cases h1 : n + 20 ≤ 700
  · have hc : nI (n + 20) ≤ 700 := nI_le (b := 700) h1 (by omega)
    rw [if_pos hc, if_pos hc]
    obtain ⟨a1, b1, p1, q1, h1'⟩ := t_word a (n := n) (by omega) h
    obtain ⟨a2, b2, p2, q2, h2'⟩ := t_word b (n := n + 4) (by omega) h1'
    obtain ⟨a3, b3, p3, q3, h3'⟩ := t_word c (n := n + 4 + 4) (by omega) h2'
    obtain ⟨a4, b4, p4, q4, h4'⟩ := t_word d (n := n + 4 + 4 + 4) (by omega) h3'
    obtain ⟨a5, b5, p5, q5, h5'⟩ := t_word e (n := n + 4 + 4 + 4 + 4) (by omega) h4'
    rw [p1, q1, g_b2_s, g_b2_s, p2, q2, g_b2_s, g_b2_s, p3, q3, g_b2_s, g_b2_s, p4, q4, g_b2_s, g_b2_s, p5, q5, g_b2_s, g_b2_s]
    exact ⟨_, n + 4 + 4 + 4 + 4 + 4, _, _, by omega, rfl, rfl, h5'⟩
  · have hc : ¬ nI (n + 20) ≤ 700 := nI_ge (a := 700) (by omega) (by omega)
    rw [if_neg hc, if_neg hc]
    exact ⟨_, n, _, _, hn, rfl, rfl, h⟩
