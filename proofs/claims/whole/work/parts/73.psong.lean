/-! ===== pure rows: the lines of songs ===== -/
/-- the tokens one behind the other -/
def z_b (c : Nat → Nat) (n a : Nat) : Nat → Nat
  | 0 => a
  | i + 1 => t_E c n (z_b c n a i)
def z_cS (n S : Nat) (tC L Fs : Nat → Int32) (g : Nat) : Int32 → Int32 → Int32 → Int32 → Int32 → Int32 → Int32 → Int32 → Int32 → Option (Int32 × Int32 × Int32 × Int32 × Int32 × Int32 × Int32 × Int32 × (Nat → Int32) × (Nat → Int32)) :=
  gs_it (fun _ _ _ _ _ _ _ _ _ => none) (f_X5_readSong_41 (nI n) tC (nI S) L Fs (fun (x1' : Int32) (x2' : Int32) (v_t_tokens_at' : Int32) (v_t_tokens_kind' : Int32) (v_t_tokens_start' : Int32) (v_t_tokens_value' : Int32) (v_t_tokens_sign' : Int32) (v_t_tokens_fault' : Int32) (v_t_tokens_place' : Int32) => f_X5_readSong_75 x1' x2' v_t_tokens_at' v_t_tokens_kind' v_t_tokens_start' v_t_tokens_value' v_t_tokens_sign' v_t_tokens_fault' v_t_tokens_place' (nI S) L Fs)) g
def z_mS (n S : Nat) (tM ML : Nat → Int32) (g : Nat) : Int32 → Int32 → Int32 → Int32 → Int32 → Int32 → Int32 → Int32 → Int32 → Int32 → Int64 → (Nat → Int32) → Option (Int32 × Int32 × Int32 × Int32 × Int32 × Int32 × Int32 × Int32 × Int64 × Int32 × (Nat → Int32) × (Nat → Int32)) :=
  gs_it (fun _ _ _ _ _ _ _ _ _ _ _ _ => none) (f_X12_readsSong_9 (nI S) (nI n) (nI S) tM ML (fun (x2' : Int32) (v_t_faultKind' : Int32) (v_t_faultPlace' : Int32) (v_t_next0' : Int32) (v_t_sort' : Int32) (v_t_place' : Int32) (v_t_long0' : Int32) (v_t_value' : Int32) (v_t_sign' : Int32) (v_t_word' : Int64) (r_t_newFirstNote' : Nat → Int32) => f_X12_readsSong_89 (nI S) x2' v_t_faultKind' v_t_faultPlace' v_t_next0' v_t_sort' v_t_place' v_t_long0' v_t_value' v_t_sign' v_t_word' (nI S) ML r_t_newFirstNote')) g
theorem z_cS_s (n S : Nat) (tC L Fs : Nat → Int32) (g : Nat) : z_cS n S tC L Fs (g + 1) = f_X5_readSong_41 (nI n) tC (nI S) L Fs (fun (x1' : Int32) (x2' : Int32) (v_t_tokens_at' : Int32) (v_t_tokens_kind' : Int32) (v_t_tokens_start' : Int32) (v_t_tokens_value' : Int32) (v_t_tokens_sign' : Int32) (v_t_tokens_fault' : Int32) (v_t_tokens_place' : Int32) => f_X5_readSong_75 x1' x2' v_t_tokens_at' v_t_tokens_kind' v_t_tokens_start' v_t_tokens_value' v_t_tokens_sign' v_t_tokens_fault' v_t_tokens_place' (nI S) L Fs) (z_cS n S tC L Fs g) := rfl
theorem z_mS_s (n S : Nat) (tM ML : Nat → Int32) (g : Nat) : z_mS n S tM ML (g + 1) = f_X12_readsSong_9 (nI S) (nI n) (nI S) tM ML (fun (x2' : Int32) (v_t_faultKind' : Int32) (v_t_faultPlace' : Int32) (v_t_next0' : Int32) (v_t_sort' : Int32) (v_t_place' : Int32) (v_t_long0' : Int32) (v_t_value' : Int32) (v_t_sign' : Int32) (v_t_word' : Int64) (r_t_newFirstNote' : Nat → Int32) => f_X12_readsSong_89 (nI S) x2' v_t_faultKind' v_t_faultPlace' v_t_next0' v_t_sort' v_t_place' v_t_long0' v_t_value' v_t_sign' v_t_word' (nI S) ML r_t_newFirstNote') (z_mS n S tM ML g) := rfl
theorem z_93 {S : Nat} (hS : S < 5) (x1 x2 ats ki st va si f p : Int32) (L Fs : Nat → Int32) : f_X5_readSong_93 x1 x2 ats ki st va si f p (nI S) L Fs = some (ats, ki, st, va, si, f, p, nI (S + 1), upd L S x2, upd Fs S x1) := by
  unfold f_X5_readSong_93
  rw [gs_gd_t (gs_in_nI hS (by decide)), gs_gd_t (gs_in_nI hS (by decide)), nI_clamp (by omega), nI_1]
theorem z_cS5 {n S : Nat} (hS : S < 5) (tC L Fs : Nat → Int32) (g : Nat) (x1 x2 ats st va si f p : Int32) : z_cS n S tC L Fs (g + 1) x1 x2 ats 5 st va si f p = some (ats, 5, st, va, si, f, p, nI (S + 1), upd L S x2, upd Fs S x1) := by
  have h75 : f_X5_readSong_75 x1 x2 ats 5 st va si f p (nI S) L Fs = some (ats, 5, st, va, si, f, p, nI (S + 1), upd L S x2, upd Fs S x1) := by
    unfold f_X5_readSong_75
    rw [k_num5, gs_b1_s, if_pos rfl, z_93 hS]
  rw [z_cS_s]
  unfold f_X5_readSong_41
  by_cases h : 8 ≤ x2
  · rw [if_pos h]
    exact h75
  · rw [if_neg h, k_num5, gs_b1_s, if_pos rfl]
    exact h75
section SO
variable {c : Nat → Nat} {n : Nat} {tC tM : Nat → Int32}
theorem z_isNum (a : Nat) : f_X8_isNumber (nI (t_K c n a)) = some (if t_K c n a = 2 then 1 else 0) := by
  have := t_K_le c n a
  unfold f_X8_isNumber
  by_cases h : t_K c n a = 2
  · rw [if_pos h, h]
    rfl
  · rw [if_neg h, if_neg (n_ne 2 2 rfl (by omega) (by decide) h)]
theorem z_songL (hn : n ≤ 700) (hC : ∀ j, j < n → c j < 256 ∧ tC j = sb_b (c j)) (hM : ∀ j, j < n → c j < 256 ∧ tM j = nI (c j)) {a S : Nat} (hS : S < 5) (L Fs ML MF : Nat → Int32) :
    ∀ (r i g g2 : Nat) (va si : Int32), i + r = 8 → r + 2 < g → r + 2 < g2 → z_b c n a i ≤ n → t_Cv c n (z_b c n a i) va si → t_S c n a ≤ t_S c n (z_b c n a i) → (∀ k, k < i → t_V c n (z_b c n a k) ≤ 9) → 1 ≤ i →
      (∃ (cnt : Nat) (va' si' : Int32), 1 ≤ cnt ∧ cnt ≤ 8 ∧ (∀ k, k < cnt → t_V c n (z_b c n a k) ≤ 9) ∧ z_b c n a cnt ≤ n ∧ t_Cv c n (z_b c n a cnt) va' si' ∧ t_S c n a ≤ t_S c n (z_b c n a cnt) ∧
        z_cS n S tC L Fs g (g_mn (fun j => nI (t_V c n (z_b c n a j))) i) (nI i) (nI (t_E c n (z_b c n a i))) (nI (t_K c n (z_b c n a i))) (nI (t_S c n (z_b c n a i))) va si 0 (-1) = some (nI (t_E c n (z_b c n a cnt)), nI (t_K c n (z_b c n a cnt)), nI (t_S c n (z_b c n a cnt)), va', si', 0, -1, nI (S + 1), upd L S (nI cnt), upd Fs S (g_mn (fun j => nI (t_V c n (z_b c n a j))) cnt)) ∧
        z_mS n S tM ML g2 (nI i) (if t_K c n (z_b c n a i) = 2 then 1 else 0) 0 (-1) (nI (t_E c n (z_b c n a i))) (nI (t_K c n (z_b c n a i))) (nI (t_S c n (z_b c n a i))) (nI (t_E c n (z_b c n a i) - t_S c n (z_b c n a i))) (t_mv c n (z_b c n a i)) (t_ms c n (z_b c n a i)) (t_mw c n (z_b c n a i)) (g_cpy (fun j => nI (t_V c n (z_b c n a j))) MF (8 * S) i) = some (0, -1, nI (t_E c n (z_b c n a cnt)), nI (t_K c n (z_b c n a cnt)), nI (t_S c n (z_b c n a cnt)), nI (t_E c n (z_b c n a cnt) - t_S c n (z_b c n a cnt)), t_mv c n (z_b c n a cnt), t_ms c n (z_b c n a cnt), t_mw c n (z_b c n a cnt), nI (S + 1), upd ML S (nI cnt), g_cpy (fun j => nI (t_V c n (z_b c n a j))) MF (8 * S) cnt)) ∨
      (∃ (f s : Nat), 0 < f ∧ f < 100 ∧ (∃ (ats st va' si' so : Int32) (l1 l2 : Nat → Int32), z_cS n S tC L Fs g (g_mn (fun j => nI (t_V c n (z_b c n a j))) i) (nI i) (nI (t_E c n (z_b c n a i))) (nI (t_K c n (z_b c n a i))) (nI (t_S c n (z_b c n a i))) va si 0 (-1) = some (ats, 5, st, va', si', nI f, nI s, so, l1, l2)) ∧
        ∃ r, z_mS n S tM ML g2 (nI i) (if t_K c n (z_b c n a i) = 2 then 1 else 0) 0 (-1) (nI (t_E c n (z_b c n a i))) (nI (t_K c n (z_b c n a i))) (nI (t_S c n (z_b c n a i))) (nI (t_E c n (z_b c n a i) - t_S c n (z_b c n a i))) (t_mv c n (z_b c n a i)) (t_ms c n (z_b c n a i)) (t_mw c n (z_b c n a i)) (g_cpy (fun j => nI (t_V c n (z_b c n a j))) MF (8 * S) i) = some (nI f, nI s, r)) := by
  have g2' : f_X12_isGood 2 = some 0 := by decide
  -- no more numbers
  have stopC : ∀ (i : Nat) (va si : Int32) (b : Nat), t_K c n b ≠ 2 → f_X5_readSong_75 (g_mn (fun j => nI (t_V c n (z_b c n a j))) i) (nI i) (nI (t_E c n b)) (nI (t_K c n b)) (nI (t_S c n b)) va si 0 (-1) (nI S) L Fs = some (nI (t_E c n b), nI (t_K c n b), nI (t_S c n b), va, si, 0, -1, nI (S + 1), upd L S (nI i), upd Fs S (g_mn (fun j => nI (t_V c n (z_b c n a j))) i)) := by
    intro i va si b hk
    unfold f_X5_readSong_75
    rw [z_isNum, if_neg hk, gs_b1_s, if_pos rfl, z_93 hS]
  have stopM : ∀ (i g2 : Nat) (b : Nat) (mf : Nat → Int32), z_mS n S tM ML (g2 + 1) (nI i) 0 0 (-1) (nI (t_E c n b)) (nI (t_K c n b)) (nI (t_S c n b)) (nI (t_E c n b - t_S c n b)) (t_mv c n b) (t_ms c n b) (t_mw c n b) mf = some (0, -1, nI (t_E c n b), nI (t_K c n b), nI (t_S c n b), nI (t_E c n b - t_S c n b), t_mv c n b, t_ms c n b, t_mw c n b, nI (S + 1), upd ML S (nI i), mf) := by
    intro i g2 b mf
    rw [z_mS_s]
    unfold f_X12_readsSong_9
    rw [if_pos rfl]
    dsimp only
    unfold f_X12_readsSong_89
    rw [gs_gd_t (gs_in_nI hS (by decide)), nI_clamp (by omega), nI_1]
  intro r
  induction r with
  | zero =>
    intro i g g2 va si hi hg hg2 hb hv hSS hV h1
    have e8 : i = 8 := by omega
    subst e8
    obtain ⟨g, rfl⟩ : ∃ q, g = q + 1 := ⟨g - 1, by omega⟩
    obtain ⟨g2, rfl⟩ : ∃ q, g2 = q + 1 := ⟨g2 - 1, by omega⟩
    have hcl : z_cS n S tC L Fs (g + 1) (g_mn (fun j => nI (t_V c n (z_b c n a j))) 8) (nI 8) (nI (t_E c n (z_b c n a 8))) (nI (t_K c n (z_b c n a 8))) (nI (t_S c n (z_b c n a 8))) va si 0 (-1) = f_X5_readSong_75 (g_mn (fun j => nI (t_V c n (z_b c n a j))) 8) (nI 8) (nI (t_E c n (z_b c n a 8))) (nI (t_K c n (z_b c n a 8))) (nI (t_S c n (z_b c n a 8))) va si 0 (-1) (nI S) L Fs := by
      rw [z_cS_s]
      unfold f_X5_readSong_41
      rw [if_pos (by decide)]
    rw [hcl]
    by_cases hk : t_K c n (z_b c n a 8) = 2
    · right
      rw [if_pos hk]
      refine ⟨2, t_S c n (z_b c n a 8), by decide, by decide, ?_, ?_⟩
      · unfold f_X5_readSong_75
        rw [z_isNum, if_pos hk, gs_b1_s, if_neg n10, k_fail0, g_b3_s, z_93 hS]
        exact ⟨_, _, _, _, _, _, _, rfl⟩
      · rw [z_mS_s]
        unfold f_X12_readsSong_9
        rw [if_neg n10, x_good0, gs_b1_s, if_neg n10, if_pos (show nI 8 = 8 from rfl), if_pos (show nI (t_K c n (z_b c n a 8)) = 2 from by rw [hk]; rfl), x_wrong0, g_b2_s]
        unfold f_X12_readsSong_39 f_X12_number
        rw [g2', gs_b1_s, if_pos rfl, g_b10_s, g2', gs_b1_s, if_pos rfl]
        exact ⟨_, rfl⟩
    · left
      rw [if_neg hk, stopC 8 va si _ hk, stopM]
      exact ⟨8, va, si, by decide, Nat.le_refl _, hV, hb, hv, hSS, rfl, rfl⟩
  | succ r ih =>
    intro i g g2 va si hi hg hg2 hb hv hSS hV h1
    obtain ⟨g, rfl⟩ : ∃ q, g = q + 2 := ⟨g - 2, by omega⟩
    obtain ⟨g2, rfl⟩ : ∃ q, g2 = q + 1 := ⟨g2 - 1, by omega⟩
    obtain ⟨hE1, hE2, hE3⟩ := t_E_le c hb
    obtain ⟨hS3, hS4⟩ := t_S_le c hE2
    by_cases hk : t_K c n (z_b c n a i) = 2
    · rw [if_pos hk, show g + 2 = (g + 1) + 1 from rfl, z_cS_s, z_mS_s]
      unfold f_X5_readSong_41 f_X12_readsSong_9
      rw [if_neg (show ¬ (8 : Int32) ≤ nI i from nI_ge (b := 8) (by omega) (by omega)), z_isNum, if_pos hk, gs_b1_s, if_neg n10, if_neg n10, x_good0, gs_b1_s, if_neg n10, if_neg (n_ne 8 8 rfl (by omega) (by decide) (by omega))]
      unfold f_X12_readsSong_39
      rcases z_num hn hC hM (most := 9) (by decide) hb hv with ⟨-, v, va', si', hve, hv9, hv', ec, em⟩ | ⟨f, s, v, hf1, hf2, ec, em⟩
      · have ec' : f_X5_readNumber 9 (nI n) (nI (t_E c n (z_b c n a i))) (nI (t_K c n (z_b c n a i))) (nI (t_S c n (z_b c n a i))) va si 0 (-1) tC = _ := ec
        have em' : f_X12_number 0 9 0 (-1) (nI n) (nI (t_E c n (z_b c n a i))) (nI (t_K c n (z_b c n a i))) (nI (t_S c n (z_b c n a i))) (nI (t_E c n (z_b c n a i) - t_S c n (z_b c n a i))) (t_mv c n (z_b c n a i)) (t_ms c n (z_b c n a i)) (t_mw c n (z_b c n a i)) tM = _ := em
        rw [ec', em', g_b8_s, g_b10_s, g_withNote, gs_b1_s, x_good0, gs_b1_s, if_neg n10, nI_1 i]
        have ix : (8 : Int32) * nI S + nI i = nI (8 * S + i) := by
          show nI 8 * nI S + nI i = _
          rw [pk_mul, nI_add]
        have hcp := g_cpy_s (fun j => nI (t_V c n (z_b c n a j))) MF (8 * S) i
        rw [ix, gs_gd_t (gs_in_nI (i := 8 * S + i) (n := 40) (by omega) (by decide)), nI_clamp (n := 8 * S + i) (by omega), hve, hcp]
        have H := ih (i + 1) (g + 1) g2 va' si' (by omega) (by omega) (by omega) hE2 hv' (by show t_S c n a ≤ t_S c n (t_E c n (z_b c n a i)); omega) (fun k hk2 => by
          rcases Nat.lt_or_ge k i with z | z
          · exact hV k z
          · have e : k = i := by omega
            rw [e, ← hve]
            exact hv9) (by omega)
        have hKl := t_K_le c n (t_E c n (z_b c n a i))
        by_cases hk' : t_K c n (t_E c n (z_b c n a i)) = 2
        · rw [if_pos (show nI (t_K c n (t_E c n (z_b c n a i))) = 2 from by rw [hk']; rfl)]
          have e3 : (if t_K c n (z_b c n a (i + 1)) = 2 then (1 : Int32) else 0) = 1 := if_pos hk'
          rw [e3] at H
          exact H
        · rw [if_neg (n_ne 2 2 rfl (by omega) (by decide) hk')]
          have e3 : (if t_K c n (z_b c n a (i + 1)) = 2 then (1 : Int32) else 0) = 0 := if_neg hk'
          rw [e3] at H
          exact H
      · right
        have ec' : f_X5_readNumber 9 (nI n) (nI (t_E c n (z_b c n a i))) (nI (t_K c n (z_b c n a i))) (nI (t_S c n (z_b c n a i))) va si 0 (-1) tC = _ := ec
        have em' : f_X12_number 0 9 0 (-1) (nI n) (nI (t_E c n (z_b c n a i))) (nI (t_K c n (z_b c n a i))) (nI (t_S c n (z_b c n a i))) (nI (t_E c n (z_b c n a i) - t_S c n (z_b c n a i))) (t_mv c n (z_b c n a i)) (t_ms c n (z_b c n a i)) (t_mw c n (z_b c n a i)) tM = _ := em
        rw [ec', em', g_b8_s, g_b10_s, g_withNote, gs_b1_s, x_goodf hf1 hf2, gs_b1_s, if_pos rfl, z_cS5 hS]
        exact ⟨f, s, hf1, hf2, ⟨_, _, _, _, _, _, _, rfl⟩, ⟨_, rfl⟩⟩
    · left
      rw [if_neg hk, stopM]
      refine ⟨i, va, si, h1, by omega, hV, hb, hv, hSS, ?_, rfl⟩
      rw [show g + 2 = (g + 1) + 1 from rfl, z_cS_s]
      unfold f_X5_readSong_41
      rw [if_neg (show ¬ (8 : Int32) ≤ nI i from nI_ge (b := 8) (by omega) (by omega)), z_isNum, if_neg hk, gs_b1_s, if_pos rfl]
      exact stopC i va si _ hk
/-- the line of a song -/
theorem z_song (hn : n ≤ 700) (hC : ∀ j, j < n → c j < 256 ∧ tC j = sb_b (c j)) (hM : ∀ j, j < n → c j < 256 ∧ tM j = nI (c j)) {a0 S : Nat} {va si : Int32} (hS : S < 5) (ha0 : a0 ≤ n) (L Fs ML MF : Nat → Int32) :
    (∃ (cnt : Nat) (va' si' : Int32), 1 ≤ cnt ∧ cnt ≤ 8 ∧ (∀ k, k < cnt → t_V c n (z_b c n (t_E c n a0) k) ≤ 9) ∧ z_b c n (t_E c n a0) cnt ≤ n ∧ t_Cv c n (z_b c n (t_E c n a0) cnt) va' si' ∧ t_S c n (t_E c n a0) ≤ t_S c n (z_b c n (t_E c n a0) cnt) ∧
        f_X5_readSong (nI n) (nI (t_E c n a0)) (nI (t_K c n a0)) (nI (t_S c n a0)) va si 0 (-1) tC (nI S) L Fs = some (nI (t_E c n (z_b c n (t_E c n a0) cnt)), nI (t_K c n (z_b c n (t_E c n a0) cnt)), nI (t_S c n (z_b c n (t_E c n a0) cnt)), va', si', 0, -1, nI (S + 1), upd L S (nI cnt), upd Fs S (g_mn (fun j => nI (t_V c n (z_b c n (t_E c n a0) j))) cnt)) ∧
        f_X12_readsSong 0 (-1) (nI n) (nI (t_E c n (t_E c n a0))) (nI (t_K c n (t_E c n a0))) (nI (t_S c n (t_E c n a0))) (nI (t_E c n (t_E c n a0) - t_S c n (t_E c n a0))) (t_mv c n (t_E c n a0)) (t_ms c n (t_E c n a0)) (t_mw c n (t_E c n a0)) (nI S) tM ML MF = some (0, -1, nI (t_E c n (z_b c n (t_E c n a0) cnt)), nI (t_K c n (z_b c n (t_E c n a0) cnt)), nI (t_S c n (z_b c n (t_E c n a0) cnt)), nI (t_E c n (z_b c n (t_E c n a0) cnt) - t_S c n (z_b c n (t_E c n a0) cnt)), t_mv c n (z_b c n (t_E c n a0) cnt), t_ms c n (z_b c n (t_E c n a0) cnt), t_mw c n (z_b c n (t_E c n a0) cnt), nI (S + 1), upd ML S (nI cnt), g_cpy (fun j => nI (t_V c n (z_b c n (t_E c n a0) j))) MF (8 * S) cnt)) ∨
    (∃ (f s : Nat), 0 < f ∧ f < 100 ∧ (∃ (ats st va' si' so : Int32) (l1 l2 : Nat → Int32), f_X5_readSong (nI n) (nI (t_E c n a0)) (nI (t_K c n a0)) (nI (t_S c n a0)) va si 0 (-1) tC (nI S) L Fs = some (ats, 5, st, va', si', nI f, nI s, so, l1, l2)) ∧
        ∃ r, f_X12_readsSong 0 (-1) (nI n) (nI (t_E c n (t_E c n a0))) (nI (t_K c n (t_E c n a0))) (nI (t_S c n (t_E c n a0))) (nI (t_E c n (t_E c n a0) - t_S c n (t_E c n a0))) (t_mv c n (t_E c n a0)) (t_ms c n (t_E c n a0)) (t_mw c n (t_E c n a0)) (nI S) tM ML MF = some (nI f, nI s, r)) := by
  obtain ⟨hE1, hE2, hE3⟩ := t_E_le c ha0
  have hKl0 := t_K_le c n a0
  have hk5 : nI (t_K c n a0) ≠ 5 := n_ne 5 5 rfl (by omega) (by decide) (by omega)
  obtain ⟨va1, si1, en, hv1⟩ := t_next hn hC hk5 (nI (t_S c n a0)) va si hE2
  obtain ⟨hE4, hE5, hE6⟩ := t_E_le c hE2
  obtain ⟨hS3, hS4⟩ := t_S_le c hE5
  have ecl : f_X5_readSong (nI n) (nI (t_E c n a0)) (nI (t_K c n a0)) (nI (t_S c n a0)) va si 0 (-1) tC (nI S) L Fs = gs_b8 (f_X5_readNumber 9 (nI n) (nI (t_E c n (t_E c n a0))) (nI (t_K c n (t_E c n a0))) (nI (t_S c n (t_E c n a0))) va1 si1 0 (-1) tC) fun r3 o3_0 o3_1 o3_2 o3_3 o3_4 o3_5 o3_6 => gs_b1 (f_X11_withNote (-1) 0 r3) fun r4 => z_cS n S tC L Fs gs_fuel r4 1 o3_0 o3_1 o3_2 o3_3 o3_4 o3_5 o3_6 := by
    unfold f_X5_readSong
    rw [if_pos (show nI S < 5 from nI_lt (b := 5) hS (by omega)), en, g_b5_s]
    rfl
  have eml : f_X12_readsSong 0 (-1) (nI n) (nI (t_E c n (t_E c n a0))) (nI (t_K c n (t_E c n a0))) (nI (t_S c n (t_E c n a0))) (nI (t_E c n (t_E c n a0) - t_S c n (t_E c n a0))) (t_mv c n (t_E c n a0)) (t_ms c n (t_E c n a0)) (t_mw c n (t_E c n a0)) (nI S) tM ML MF = z_mS n S tM ML gs_fuel 0 1 0 (-1) (nI (t_E c n (t_E c n a0))) (nI (t_K c n (t_E c n a0))) (nI (t_S c n (t_E c n a0))) (nI (t_E c n (t_E c n a0) - t_S c n (t_E c n a0))) (t_mv c n (t_E c n a0)) (t_ms c n (t_E c n a0)) (t_mw c n (t_E c n a0)) MF := rfl
  rw [ecl, eml, show gs_fuel = 19999 + 1 from rfl, z_mS_s]
  unfold f_X12_readsSong_9
  rw [if_neg n10, x_good0, gs_b1_s, if_neg n10, if_neg (show ¬ (0 : Int32) = 8 from by decide)]
  unfold f_X12_readsSong_39
  rcases z_num hn hC hM (most := 9) (by decide) hE2 hv1 with ⟨-, v, va', si', hve, hv9, hv', ec, em⟩ | ⟨f, s, v, hf1, hf2, ec, em⟩
  · have ec' : f_X5_readNumber 9 (nI n) (nI (t_E c n (t_E c n a0))) (nI (t_K c n (t_E c n a0))) (nI (t_S c n (t_E c n a0))) va1 si1 0 (-1) tC = _ := ec
    have em' : f_X12_number 0 9 0 (-1) (nI n) (nI (t_E c n (t_E c n a0))) (nI (t_K c n (t_E c n a0))) (nI (t_S c n (t_E c n a0))) (nI (t_E c n (t_E c n a0) - t_S c n (t_E c n a0))) (t_mv c n (t_E c n a0)) (t_ms c n (t_E c n a0)) (t_mw c n (t_E c n a0)) tM = _ := em
    rw [ec', em', g_b8_s, g_b10_s, show f_X11_withNote (-1) 0 (nI v) = _ from g_withNote (-1) 0 (nI v), gs_b1_s, x_good0, gs_b1_s, if_neg n10]
    have ix : (8 : Int32) * nI S + 0 = nI (8 * S + 0) := by
      show nI 8 * nI S + nI 0 = _
      rw [pk_mul, nI_add]
    have hcp := g_cpy_s (fun j => nI (t_V c n (z_b c n (t_E c n a0) j))) MF (8 * S) 0
    rw [← g_cpy_0] at hcp
    have hcp' : upd MF (8 * S + 0) (nI (t_V c n (t_E c n a0))) = _ := hcp
    rw [ix, gs_gd_t (gs_in_nI (i := 8 * S + 0) (n := 40) (by omega) (by decide)), nI_clamp (n := 8 * S + 0) (by omega), hve, hcp']
    have H := z_songL hn hC hM (a := t_E c n a0) hS L Fs ML MF 7 1 (19999 + 1) 19999 va' si' rfl (by decide) (by decide) hE5 hv' (by show t_S c n (t_E c n a0) ≤ t_S c n (t_E c n (t_E c n a0)); omega) (fun k hk => by
      have e : k = 0 := by omega
      rw [e]
      show t_V c n (t_E c n a0) ≤ 9
      rw [← hve]
      exact hv9) (Nat.le_refl _)
    have hKl := t_K_le c n (t_E c n (t_E c n a0))
    by_cases hk' : t_K c n (t_E c n (t_E c n a0)) = 2
    · rw [if_pos (show nI (t_K c n (t_E c n (t_E c n a0))) = 2 from by rw [hk']; rfl)]
      have e3 : (if t_K c n (z_b c n (t_E c n a0) 1) = 2 then (1 : Int32) else 0) = 1 := if_pos hk'
      rw [e3] at H
      exact H
    · rw [if_neg (n_ne 2 2 rfl (by omega) (by decide) hk')]
      have e3 : (if t_K c n (z_b c n (t_E c n a0) 1) = 2 then (1 : Int32) else 0) = 0 := if_neg hk'
      rw [e3] at H
      exact H
  · right
    have ec' : f_X5_readNumber 9 (nI n) (nI (t_E c n (t_E c n a0))) (nI (t_K c n (t_E c n a0))) (nI (t_S c n (t_E c n a0))) va1 si1 0 (-1) tC = _ := ec
    have em' : f_X12_number 0 9 0 (-1) (nI n) (nI (t_E c n (t_E c n a0))) (nI (t_K c n (t_E c n a0))) (nI (t_S c n (t_E c n a0))) (nI (t_E c n (t_E c n a0) - t_S c n (t_E c n a0))) (t_mv c n (t_E c n a0)) (t_ms c n (t_E c n a0)) (t_mw c n (t_E c n a0)) tM = _ := em
    rw [ec', em', g_b8_s, g_b10_s, show f_X11_withNote (-1) 0 0 = some _ from rfl, gs_b1_s, x_goodf hf1 hf2, gs_b1_s, if_pos rfl, z_cS5 hS]
    exact ⟨f, s, hf1, hf2, ⟨_, _, _, _, _, _, _, rfl⟩, ⟨_, rfl⟩⟩
/-- the line of a person -/
theorem z_person (hn : n ≤ 700) (hC : ∀ j, j < n → c j < 256 ∧ tC j = sb_b (c j)) (hM : ∀ j, j < n → c j < 256 ∧ tM j = nI (c j)) {a0 P : Nat} {va si : Int32} (hP : P < 7) (ha0 : a0 ≤ n) (ME W MW M : Nat → Int32) :
    (∃ (a' x y : Nat) (va' si' : Int32), x ≤ 9 ∧ y ≤ 9 ∧ a' ≤ n ∧ t_Cv c n a' va' si' ∧ t_S c n a0 ≤ t_S c n a' ∧
        f_X5_readPerson (nI n) (nI (t_E c n a0)) (nI (t_K c n a0)) (nI (t_S c n a0)) va si 0 (-1) tC (nI P) ME W = some (nI (t_E c n a'), nI (t_K c n a'), nI (t_S c n a'), va', si', 0, -1, nI (P + 1), upd ME P (nI x), upd W P (nI y)) ∧
        f_X12_readsPerson 0 (-1) (nI n) (nI (t_E c n (t_E c n a0))) (nI (t_K c n (t_E c n a0))) (nI (t_S c n (t_E c n a0))) (nI (t_E c n (t_E c n a0) - t_S c n (t_E c n a0))) (t_mv c n (t_E c n a0)) (t_ms c n (t_E c n a0)) (t_mw c n (t_E c n a0)) (nI P) tM MW M = some (0, -1, nI (t_E c n a'), nI (t_K c n a'), nI (t_S c n a'), nI (t_E c n a' - t_S c n a'), t_mv c n a', t_ms c n a', t_mw c n a', nI (P + 1), upd MW P (nI y), upd (upd (upd M (365 + P) (nI x)) (351 + P) (-1)) (358 + P) (-1))) ∨
    (∃ (f s : Nat), 0 < f ∧ f < 100 ∧ (∃ (ats st va' si' so : Int32) (l1 l2 : Nat → Int32), f_X5_readPerson (nI n) (nI (t_E c n a0)) (nI (t_K c n a0)) (nI (t_S c n a0)) va si 0 (-1) tC (nI P) ME W = some (ats, 5, st, va', si', nI f, nI s, so, l1, l2)) ∧
        ∃ r, f_X12_readsPerson 0 (-1) (nI n) (nI (t_E c n (t_E c n a0))) (nI (t_K c n (t_E c n a0))) (nI (t_S c n (t_E c n a0))) (nI (t_E c n (t_E c n a0) - t_S c n (t_E c n a0))) (t_mv c n (t_E c n a0)) (t_ms c n (t_E c n a0)) (t_mw c n (t_E c n a0)) (nI P) tM MW M = some (nI f, nI s, r)) := by
  obtain ⟨hE1, hE2, hE3⟩ := t_E_le c ha0
  have hKl0 := t_K_le c n a0
  have hk5 : nI (t_K c n a0) ≠ 5 := n_ne 5 5 rfl (by omega) (by decide) (by omega)
  obtain ⟨va1, si1, en, hv1⟩ := t_next hn hC hk5 (nI (t_S c n a0)) va si hE2
  obtain ⟨hE4, hE5, hE6⟩ := t_E_le c hE2
  obtain ⟨hE7, hE8, hE9⟩ := t_E_le c hE5
  obtain ⟨hS1, hS2⟩ := t_S_le c hE2
  obtain ⟨hS3, hS4⟩ := t_S_le c hE5
  obtain ⟨hS5, hS6⟩ := t_S_le c hE8
  have i1 : (365 : Int32) + nI P = nI (365 + P) := nI_add 365 P
  have i2 : (351 : Int32) + nI P = nI (351 + P) := nI_add 351 P
  have i3 : (358 : Int32) + nI P = nI (358 + P) := nI_add 358 P
  unfold f_X5_readPerson f_X12_readsPerson
  rw [if_pos (show nI P < 7 from nI_lt (b := 7) hP (by omega)), en, g_b5_s, i1, i2, i3, nI_clamp (n := 365 + P) (by omega), nI_clamp (n := 351 + P) (by omega), nI_clamp (n := 358 + P) (by omega), nI_clamp (n := P) (by omega)]
  rcases z_num hn hC hM (most := 9) (by decide) hE2 hv1 with ⟨-, v, va2, si2, -, hv9, hv2, ec, em⟩ | ⟨f, s, v, hf1, hf2, ec, em⟩
  · have ec' : f_X5_readNumber 9 (nI n) (nI (t_E c n (t_E c n a0))) (nI (t_K c n (t_E c n a0))) (nI (t_S c n (t_E c n a0))) va1 si1 0 (-1) tC = _ := ec
    have em' : f_X12_number 0 9 0 (-1) (nI n) (nI (t_E c n (t_E c n a0))) (nI (t_K c n (t_E c n a0))) (nI (t_S c n (t_E c n a0))) (nI (t_E c n (t_E c n a0) - t_S c n (t_E c n a0))) (t_mv c n (t_E c n a0)) (t_ms c n (t_E c n a0)) (t_mw c n (t_E c n a0)) tM = _ := em
    rw [ec', em', g_b8_s, g_b10_s, gs_gd_t (gs_in_nI (i := 365 + P) (n := 372) (by omega) (by decide)), gs_gd_t (gs_in_nI (i := P) (n := 7) (by omega) (by decide))]
    rcases z_num hn hC hM (most := 9) (by decide) hE5 hv2 with ⟨-, v2, va3, si3, -, hv92, hv3, ec2, em2⟩ | ⟨f, s, v2, hf1, hf2, ec2, em2⟩
    · left
      have ec2' : f_X5_readNumber 9 (nI n) (nI (t_E c n (t_E c n (t_E c n a0)))) (nI (t_K c n (t_E c n (t_E c n a0)))) (nI (t_S c n (t_E c n (t_E c n a0)))) va2 si2 0 (-1) tC = _ := ec2
      have em2' : f_X12_number 0 9 0 (-1) (nI n) (nI (t_E c n (t_E c n (t_E c n a0)))) (nI (t_K c n (t_E c n (t_E c n a0)))) (nI (t_S c n (t_E c n (t_E c n a0)))) (nI (t_E c n (t_E c n (t_E c n a0)) - t_S c n (t_E c n (t_E c n a0)))) (t_mv c n (t_E c n (t_E c n a0))) (t_ms c n (t_E c n (t_E c n a0))) (t_mw c n (t_E c n (t_E c n a0))) tM = _ := em2
      rw [ec2', em2', g_b8_s, g_b10_s, gs_gd_t (gs_in_nI (i := P) (n := 7) (by omega) (by decide)), gs_gd_t (gs_in_nI (i := P) (n := 7) (by omega) (by decide)), gs_gd_t (gs_in_nI (i := 351 + P) (n := 372) (by omega) (by decide)), gs_gd_t (gs_in_nI (i := 358 + P) (n := 372) (by omega) (by decide)), x_good0, gs_b1_s, if_neg n10, nI_1 P]
      exact ⟨t_E c n (t_E c n (t_E c n a0)), v, v2, va3, si3, hv9, hv92, hE8, hv3, by omega, rfl, rfl⟩
    · right
      have ec2' : f_X5_readNumber 9 (nI n) (nI (t_E c n (t_E c n (t_E c n a0)))) (nI (t_K c n (t_E c n (t_E c n a0)))) (nI (t_S c n (t_E c n (t_E c n a0)))) va2 si2 0 (-1) tC = _ := ec2
      have em2' : f_X12_number 0 9 0 (-1) (nI n) (nI (t_E c n (t_E c n (t_E c n a0)))) (nI (t_K c n (t_E c n (t_E c n a0)))) (nI (t_S c n (t_E c n (t_E c n a0)))) (nI (t_E c n (t_E c n (t_E c n a0)) - t_S c n (t_E c n (t_E c n a0)))) (t_mv c n (t_E c n (t_E c n a0))) (t_ms c n (t_E c n (t_E c n a0))) (t_mw c n (t_E c n (t_E c n a0))) tM = _ := em2
      rw [ec2', em2', g_b8_s, g_b10_s, gs_gd_t (gs_in_nI (i := P) (n := 7) (by omega) (by decide)), gs_gd_t (gs_in_nI (i := P) (n := 7) (by omega) (by decide)), gs_gd_t (gs_in_nI (i := 351 + P) (n := 372) (by omega) (by decide)), gs_gd_t (gs_in_nI (i := 358 + P) (n := 372) (by omega) (by decide)), x_goodf hf1 hf2, gs_b1_s, if_pos rfl]
      exact ⟨f, s, hf1, hf2, ⟨_, _, _, _, _, _, _, rfl⟩, ⟨_, rfl⟩⟩
  · right
    have ec' : f_X5_readNumber 9 (nI n) (nI (t_E c n (t_E c n a0))) (nI (t_K c n (t_E c n a0))) (nI (t_S c n (t_E c n a0))) va1 si1 0 (-1) tC = _ := ec
    have em' : f_X12_number 0 9 0 (-1) (nI n) (nI (t_E c n (t_E c n a0))) (nI (t_K c n (t_E c n a0))) (nI (t_S c n (t_E c n a0))) (nI (t_E c n (t_E c n a0) - t_S c n (t_E c n a0))) (t_mv c n (t_E c n a0)) (t_ms c n (t_E c n a0)) (t_mw c n (t_E c n a0)) tM = _ := em
    have em2 : ∀ (nx so pl lo va si : Int32) (wo : Int64), f_X12_number 0 9 (nI f) (nI s) (nI n) nx so pl lo va si wo tM = some (0, nI f, nI s, nx, so, pl, lo, va, si, wo) := by
      intro nx so pl lo va si wo
      unfold f_X12_number
      rw [x_goodf hf1 hf2, gs_b1_s, if_pos rfl]
    rw [ec', em', g_b8_s, g_b10_s, gs_gd_t (gs_in_nI (i := 365 + P) (n := 372) (by omega) (by decide)), gs_gd_t (gs_in_nI (i := P) (n := 7) (by omega) (by decide)), z_num5 (x_fne hf1 hf2), g_b8_s, em2, g_b10_s, gs_gd_t (gs_in_nI (i := P) (n := 7) (by omega) (by decide)), gs_gd_t (gs_in_nI (i := P) (n := 7) (by omega) (by decide)), gs_gd_t (gs_in_nI (i := 351 + P) (n := 372) (by omega) (by decide)), gs_gd_t (gs_in_nI (i := 358 + P) (n := 372) (by omega) (by decide)), x_goodf hf1 hf2, gs_b1_s, if_pos rfl]
    exact ⟨f, s, hf1, hf2, ⟨_, _, _, _, _, _, _, rfl⟩, ⟨_, rfl⟩⟩
end SO
