/-! ===== pure rows: marsh, both sides ===== -/
theorem o_marsh {n : Nat} (hn : n ≤ 700) {tC tM : Nat → Int32} (htp : g_tp n tC tM) {S P : Nat} (x th ce fF fT lF lT fp im ol mn hc fA lA fk fpM ac hm hi : Int32) (l1 nx so0 pl lo va0 si0 nS nP nF nL tp fv0 lv0 wt0 dp0 : Int32) (wo : Int64) (kl ka kk ks kv kg kf kp rS rP rE rF1 rF2 rL1 rL2 rOF : Int32) (rf L Fs ME W CC C rfM ML MF MW CM M nSL nFN nWI nRW rC wts tst iT rA1 rA2 rA3 rA4 rA5 rA6 rA7 : Nat → Int32) :
    ((f_X11_marsh x (nI n) fp im tC rf (nI S) (nI P) ce fF fT lF lT L Fs ME W CC C ol mn hc kl ka kk ks kv kg kf kp rS rP rE rF1 rF2 rL1 rL2 rA1 rA2 rA3 rA4 rA5 rA6 rA7 rOF) = some (.inl 2) ∧ (f_X12_marsh x th (nI S) (nI P) fA lA (nI n) fk fpM l1 nx so0 pl lo va0 si0 wo nS nP nF nL tp fv0 lv0 wt0 dp0 ac hm hi ML MF MW CM tM rfM nSL nFN nWI nRW rC wts tst iT M) = some (0, 1, nI S, nI P, fA, lA, nI n, fk, fpM, l1, nx, so0, pl, lo, va0, si0, wo, nS, nP, nF, nL, tp, fv0, lv0, wt0, dp0, ac, hm, hi, ML, MF, MW, CM, rfM, nSL, nFN, nWI, nRW, rC, wts, tst, iT, M)) ∨
    (∃ (S' P' : Nat) (len mem : Nat → Nat) (rF rL : Option (List Nat)) (ce' fF' fT' lF' lT' fA' lA' : Int32) (L' Fs' ME' W' CC' C' ML' MF' MW' CM' M' : Nat → Int32) (l1' nx' so0' pl' lo' va0' si0' nS' nP' nF' nL' tp' fv0' lv0' wt0' dp0' : Int32) (wo' : Int64) (nSL' nFN' nWI' nRW' rC' wts' tst' iT' : Nat → Int32) (rd : _), (f_X11_marsh x (nI n) fp im tC rf (nI S) (nI P) ce fF fT lF lT L Fs ME W CC C ol mn hc kl ka kk ks kv kg kf kp rS rP rE rF1 rF2 rL1 rL2 rA1 rA2 rA3 rA4 rA5 rA6 rA7 rOF) = some (.inr (0, 0, -1, 0, rf, nI S', nI P', ce', fF', fT', lF', lT', L', Fs', ME', W', CC', C', 0, 0, 0, rd)) ∧ (f_X12_marsh x th (nI S) (nI P) fA lA (nI n) fk fpM l1 nx so0 pl lo va0 si0 wo nS nP nF nL tp fv0 lv0 wt0 dp0 ac hm hi ML MF MW CM tM rfM nSL nFN nWI nRW rC wts tst iT M) = some (0, 0, nI S', nI P', fA', lA', 0, 0, -1, l1', nx', so0', pl', lo', va0', si0', wo', nS', nP', nF', nL', tp', fv0', lv0', wt0', dp0', 0, 0, 0, ML', MF', MW', CM', rfM, nSL', nFN', nWI', nRW', rC', wts', tst', iT', M') ∧ g_T P' S' len rF rL L' Fs' W' CC' fF' fT' lF' lT' ML' MF' MW' CM' fA' lA' ∧ (∀ p, p < P' → ME' p = nI (mem p)) ∧ g_R P' S' 9999 len mem C' M' 0) ∨
    (∃ (f s : Nat) (l1' nx' so0' pl' lo' va0' si0' nS' nP' nF' nL' tp' fv0' lv0' wt0' dp0' : Int32) (wo' : Int64) (nSL' nFN' nWI' nRW' rC' wts' tst' iT' : Nat → Int32) (rd : _), (f_X11_marsh x (nI n) fp im tC rf (nI S) (nI P) ce fF fT lF lT L Fs ME W CC C ol mn hc kl ka kk ks kv kg kf kp rS rP rE rF1 rF2 rL1 rL2 rA1 rA2 rA3 rA4 rA5 rA6 rA7 rOF) = some (.inr (nI f, 0, nI s, im, upd rf 0 (rf 0 + 1), nI S, nI P, ce, fF, fT, lF, lT, L, Fs, ME, W, CC, C, ol, mn, hc, rd)) ∧ (f_X12_marsh x th (nI S) (nI P) fA lA (nI n) fk fpM l1 nx so0 pl lo va0 si0 wo nS nP nF nL tp fv0 lv0 wt0 dp0 ac hm hi ML MF MW CM tM rfM nSL nFN nWI nRW rC wts tst iT M) = some (nI f, 0, nI S, nI P, fA, lA, 0, nI f, nI s, l1', nx', so0', pl', lo', va0', si0', wo', nS', nP', nF', nL', tp', fv0', lv0', wt0', dp0', ac, hm, hi, ML, MF, MW, CM, upd rfM 0 (rfM 0 + 1), nSL', nFN', nWI', nRW', rC', wts', tst', iT', M)) := by
  by_cases hx0 : x < 0
  · left
    unfold f_X11_marsh f_X12_marsh f_X12_marsh_23
    rw [if_pos hx0, if_pos hx0, show f_X12_right 0 1 0 = some (0, 1) from rfl, g_b2_s, if_pos rfl]
    exact ⟨rfl, rfl⟩
  by_cases hx1 : nI n < x
  · left
    unfold f_X11_marsh f_X12_marsh f_X12_marsh_23
    rw [if_neg hx0, if_neg hx0, if_neg (n_nle hx1), if_pos hx1, show f_X12_right 0 1 0 = some (0, 1) from rfl, g_b2_s, if_pos rfl]
    exact ⟨rfl, rfl⟩
  right
  have hx2 := n_le hx1
  obtain ⟨m, hm0, e⟩ : ∃ m, m ≤ n ∧ x = nI m := by
    rcases pk_ix x (n := n + 1) (by omega) with h | h | ⟨d, hd, e⟩
    · exact absurd h hx0
    · rw [Int32.le_iff_toInt_le, nI_toInt (by omega)] at h hx2
      omega
    · exact ⟨d, by omega, e⟩
  subst e
  have hm700 : m ≤ 700 := by omega
  have hcx : ∃ c : Nat → Nat, ∀ j, j < m → c j < 256 ∧ tC j = sb_b (c j) ∧ tM j = nI (c j) := by
    refine ⟨fun j => (tM j).toNatClampNeg, fun j hj => ?_⟩
    obtain ⟨c, h1, h2, h3⟩ := htp j (by omega)
    have : (tM j).toNatClampNeg = c := by rw [h3, nI_clamp (by omega)]
    show (tM j).toNatClampNeg < 256 ∧ tC j = sb_b (tM j).toNatClampNeg ∧ tM j = nI (tM j).toNatClampNeg
    rw [this]
    exact ⟨h1, h2, h3⟩
  obtain ⟨c, hc0⟩ := hcx
  have hC : ∀ j, j < m → c j < 256 ∧ tC j = sb_b (c j) := fun j hj => ⟨(hc0 j hj).1, (hc0 j hj).2.1⟩
  have hM : ∀ j, j < m → c j < 256 ∧ tM j = nI (c j) := fun j hj => ⟨(hc0 j hj).1, (hc0 j hj).2.2⟩
  have e700 : (if (700 : Int32) < nI m then 700 else nI m) = nI m := if_neg (show ¬ (700 : Int32) < nI m from nI_nlt (a := 700) (by omega) (by omega))
  obtain ⟨va1, si1, en, hv1⟩ := t_next hm700 hC (ki := 0) (by decide) ks kv kg (a := 0) (by omega)
  have en' : f_X8_next (nI m) 0 0 ks kv kg tC = _ := en
  have eg : f_X12_goes (nI m) 0 so0 pl lo va0 si0 wo tM = _ := t_goes hm700 hM so0 pl lo va0 si0 wo (a := 0) (Nat.zero_le _)
  have H := z_text hm700 hC hM 0 (nI S) (nI P) fA lA 0 ac hm hi ML MF MW CM rfM M 20000 20000 0 0 0 0 0 0 (fun _ => 0) (fun _ => 0) none none va1 si1 (-1) (-1) (-1) (-1) rOF (-1) (-1) fv0 lv0 wt0 dp0 rA1 rA2 rA3 rA4 rA5 (upd (fun j => if j < 78 then -1 else rA6 j) 0 0) (fun j => if j < 7 then 0 else rA7 j) nSL nFN nWI (fun j => if j < 372 then z_m0 j else nRW j) rC wts tst (fun j => if j < 35 then 0 else iT j) (by have := (t_S_le c (n := m) (a := 0) (Nat.zero_le _)).2; omega) (by have := (t_S_le c (n := m) (a := 0) (Nat.zero_le _)).2; omega) (Nat.zero_le _)
    (z_start hv1 rA1 rA2 rA3 rA4 rA5 nSL nFN nWI rC rA6 rA6 (-1) (-1) rfl (fun j hj => if_pos hj) (fun j hj => if_pos hj) (fun j hj => if_pos hj))
  have ecl : ∀ r, z_cT m tC 20000 (nI 0) (nI (t_E c m 0)) (nI (t_K c m 0)) (nI (t_S c m 0)) va1 si1 0 (-1) (nI 0) (nI 0) (nI 0) (-1) (-1) (-1) (-1) rA1 rA2 rA3 rA4 rA5 (upd (fun j => if j < 78 then -1 else rA6 j) 0 0) (fun j => if j < 7 then 0 else rA7 j) rOF = some r → f_X5_readText (nI m) kl ka kk ks kv kg kf kp tC rS rP rE rF1 rF2 rL1 rL2 rA1 rA2 rA3 rA4 rA5 rA6 rA7 rOF = some r := by
    intro r hr
    unfold f_X5_readText f_X8_begin
    rw [show f_X9_clear rS rP rE rF1 rF2 rL1 rL2 = some (0, 0, 0, -1, -1, -1, -1) from rfl, g_b7_s, gs_clear_r, gs_b1_s, gs_fill (by omega), gs_b1_s, e700, en', g_b5_s, g_b8_s]
    exact hr
  have emo : (f_X12_marsh (nI m) th (nI S) (nI P) fA lA (nI n) fk fpM l1 nx so0 pl lo va0 si0 wo nS nP nF nL tp fv0 lv0 wt0 dp0 ac hm hi ML MF MW CM tM rfM nSL nFN nWI nRW rC wts tst iT M) = gs_it (fun _ _ _ _ _ _ _ _ _ _ _ _ _ _ _ _ _ _ _ _ _ _ _ _ _ _ => none) (f_X12_marsh_158 0 (nI S) (nI P) fA lA 0 (nI m) ac hm hi ML MF MW CM tM rfM M (fun (faultKind' : Int32) (faultPlace' : Int32) (next0' : Int32) (sort' : Int32) (place' : Int32) (long0' : Int32) (value' : Int32) (sign' : Int32) (word' : Int64) (newSongs' : Int32) (newPeople' : Int32) (newForgetsAt' : Int32) (newFillsAt' : Int32) (top' : Int32) (firstValue' : Int32) (lastValue' : Int32) (waiting' : Int32) (depth' : Int32) (newSongLong' : Nat → Int32) (newFirstNote' : Nat → Int32) (newWit' : Nat → Int32) (newRow' : Nat → Int32) (readCode' : Nat → Int32) (waits' : Nat → Int32) (tested' : Nat → Int32) (isTold' : Nat → Int32) => f_X12_marsh_179 0 (nI S) (nI P) fA lA 0 faultKind' faultPlace' (nI m) next0' sort' place' long0' value' sign' word' newSongs' newPeople' newForgetsAt' newFillsAt' top' firstValue' lastValue' waiting' depth' ac hm hi ML MF MW CM rfM newSongLong' newFirstNote' newWit' newRow' readCode' waits' tested' isTold' M)) 20000 0 (-1) (nI (t_E c m 0)) (nI (t_K c m 0)) (nI (t_S c m 0)) (nI (t_E c m 0 - t_S c m 0)) (t_mv c m 0) (t_ms c m 0) (t_mw c m 0) (nI 0) (nI 0) (-1) (-1) (nI 0) fv0 lv0 wt0 dp0 nSL nFN nWI (fun j => if j < 372 then z_m0 j else nRW j) rC wts tst (fun j => if j < 35 then 0 else iT j) := by
    unfold f_X12_marsh f_X12_marsh_23
    rw [if_neg hx0, if_neg hx1, show f_X12_right 1 1 0 = some (1, 0) from rfl, g_b2_s, if_neg n10, z_row]
    unfold f_X12_marsh_128
    rw [z_told]
    unfold f_X12_marsh_149
    rw [eg, g_b7_s]
    rfl
  rcases H with ⟨a', S', P', ce', top', len', mem', rF', rL', va', si', fF', fT', lF', lT', oF', fA', lA', fv', lv', wt', dp', L', Fs', ME', W', CC', C', TO', ML', MF', MW', M', CM', ws', ts', IT', ec, em, hI⟩ | ⟨f, s, hf1, hf2, ⟨ats, st, v1, v2, r, ec⟩, x1, x2, x3, x4, x5, x6, x7, x8, x9, x10, x11, x12, x13, x14, x15, x16, x17, x18, x19, x20, x21, x22, x23, x24, em⟩
  · left
    have ec' := ecl _ ec
    have em' := emo.trans (em _)
    obtain ⟨hT, hMe, hR⟩ := z_done hI L Fs ME W CC C ML MF MW CM M
    have hl : ∀ K, gs_it (fun _ _ => none) (f_X12_marsh_283 0 (nI S') (nI P') fA' lA' 0 0 (-1) (nI m) (nI (t_E c m a')) (nI (t_K c m a')) (nI (t_S c m a')) (nI (t_E c m a' - t_S c m a')) (t_mv c m a') (t_ms c m a') (t_mw c m a') (nI S') (nI P') fA' lA' (nI top') fv' lv' wt' dp' (g_cpy ML' ML 0 5) (g_cpy MF' MF 0 40) (g_cpy MW' MW 0 7) (g_cpy CM' CM 0 1400) rfM ML' MF' MW' M' CM' ws' ts' IT' K) gs_fuel 0 M = K (g_cpy M' M 0 372) := by
      intro K
      refine g_lb 372 (fun i => g_cpy M' M 0 i) (by omega) (g_cpy_0 _ _ _) (fun G i hi => ?_) (fun G => ?_)
      · unfold f_X12_marsh_283
        have e3 := g_cpy_s M' M 0 i
        rw [Nat.zero_add] at e3
        rw [if_neg (show ¬ (372 : Int32) ≤ nI i from nI_ge (b := 372) hi (by omega)), gs_gd_t (gs_in_nI hi (by omega)), gs_gd_t (gs_in_nI (by omega) (by omega)), nI_clamp (by omega), nI_1, e3]
      · unfold f_X12_marsh_283
        rw [if_pos (show (372 : Int32) ≤ nI 372 from by decide)]
    refine ⟨S', P', len', mem', rF', rL', nI ce', fF', fT', lF', lT', fA', lA', _, _, _, _, _, _, _, _, _, _, _, nI m, nI (t_E c m a'), nI (t_K c m a'), nI (t_S c m a'), nI (t_E c m a' - t_S c m a'), t_mv c m a', t_ms c m a', nI S', nI P', fA', lA', nI top', fv', lv', wt', dp', t_mw c m a', ML', MF', MW', M', CM', ws', ts', IT', (nI m, nI (t_E c m a'), nI (t_K c m a'), nI (t_S c m a'), va', si', 0, -1, nI S', nI P', nI ce', fF', fT', lF', lT', L', Fs', ME', W', CC', C', TO', oF'), ?_, ?_, hT, hMe, hR⟩
    rotate_left
    · rw [em']
      unfold f_X12_marsh_179
      rw [x_good0, gs_b1_s, if_neg n10, a_copies (by omega), gs_b1_s, a_copies (by omega), gs_b1_s, a_copies (by omega), gs_b1_s, a_copies (by omega), gs_b1_s, hl]
      rfl
    · unfold f_X11_marsh
      rw [if_neg hx0, if_pos hx2, ec', g_b24_s, show f_X5_faultPlace (-1) = some (-1) from rfl, gs_b1_s, if_pos rfl]
      unfold f_X9_copyFrom
      rw [gs_gd_t (by decide), gs_gd_t (by decide), gs_gd_t (by decide), gs_gd_t (by decide), gs_gd_t (by decide), g_b12_s, g_copyRow, gs_b1_s]
      rfl
  · right
    have ec' := ecl _ ec
    have em' := emo.trans (em _)
    obtain ⟨a1, a2, a3, a4, a5, a6, a7, b1, b2, b3, b4, b5, b6, b7, oF'⟩ := r
    refine ⟨f, s, nI m, x1, x2, x3, x4, x5, x6, x8, x9, x10, x11, x12, x13, x14, x15, x16, x7, x17, x18, x19, x20, x21, x22, x23, x24, (nI m, ats, 5, st, v1, v2, nI f, nI s, a1, a2, a3, a4, a5, a6, a7, b1, b2, b3, b4, b5, b6, b7, oF'), ?_, ?_⟩
    rotate_left
    · rw [em']
      unfold f_X12_marsh_179
      rw [x_goodf hf1 hf2, gs_b1_s, if_pos rfl, gs_gd_t (by decide), gs_gd_t (by decide)]
      rfl
    · unfold f_X11_marsh
      rw [if_neg hx0, if_pos hx2, ec', g_b24_s, show f_X5_faultPlace (nI s) = some (nI s) from rfl, gs_b1_s, if_neg (n_ne 0 0 rfl (by omega) (by decide) (by omega)), gs_gd_t (by decide), gs_gd_t (by decide)]
      rfl
