/-! ===== pure rows: numbers in a line ===== -/
theorem g_b10_s {α1 α2 α3 α4 α5 α6 α7 α8 α9 α10 β : Type} {a1 : α1} {a2 : α2} {a3 : α3} {a4 : α4} {a5 : α5} {a6 : α6} {a7 : α7} {a8 : α8} {a9 : α9} {a10 : α10} {k : α1 → α2 → α3 → α4 → α5 → α6 → α7 → α8 → α9 → α10 → Option β} : gs_b10 (some (a1, a2, a3, a4, a5, a6, a7, a8, a9, a10)) k = k a1 a2 a3 a4 a5 a6 a7 a8 a9 a10 := rfl
theorem g_b12_s {α1 α2 α3 α4 α5 α6 α7 α8 α9 α10 α11 α12 β : Type} {a1 : α1} {a2 : α2} {a3 : α3} {a4 : α4} {a5 : α5} {a6 : α6} {a7 : α7} {a8 : α8} {a9 : α9} {a10 : α10} {a11 : α11} {a12 : α12} {k : α1 → α2 → α3 → α4 → α5 → α6 → α7 → α8 → α9 → α10 → α11 → α12 → Option β} : gs_b12 (some (a1, a2, a3, a4, a5, a6, a7, a8, a9, a10, a11, a12)) k = k a1 a2 a3 a4 a5 a6 a7 a8 a9 a10 a11 a12 := rfl
theorem z_num5 {f : Int32} (hf : f ≠ 0) (x L ats st va si p : Int32) (tx : Nat → Int32) : f_X5_readNumber x L ats 5 st va si f p tx = some (0, ats, 5, st, va, si, f, p) := by
  unfold f_X5_readNumber
  rw [k_num5, gs_b1_s, if_pos rfl, k_fail5 hf, g_b3_s]
theorem z_look5 {f : Int32} (hf : f ≠ 0) (x ats st va p : Int32) : f_X5_lookAtTold x ats 5 st va f p = some (0, 5, f, p) := by
  unfold f_X5_lookAtTold
  rw [k_num5, gs_b1_s, if_pos rfl, k_fail5 hf, g_b3_s]
theorem x_fne {f : Nat} (h : 0 < f) (h2 : f < 100) : nI f ≠ 0 := n_ne 0 0 rfl (by omega) (by decide) (by omega)
section NU
variable {c : Nat → Nat} {n : Nat} {tC tM : Nat → Int32}
theorem z_num (hn : n ≤ 700) (hC : ∀ j, j < n → c j < 256 ∧ tC j = sb_b (c j)) (hM : ∀ j, j < n → c j < 256 ∧ tM j = nI (c j)) {a most : Nat} {va si : Int32} (hmost : most < 1000) (ha : a ≤ n) (hv : t_Cv c n a va si) :
    (t_K c n a = 2 ∧ ∃ (v : Nat) (va' si' : Int32), v = t_V c n a ∧ v ≤ most ∧ t_Cv c n (t_E c n a) va' si' ∧ f_X5_readNumber (nI most) (nI n) (nI (t_E c n a)) (nI (t_K c n a)) (nI (t_S c n a)) va si 0 (-1) tC = some (nI v, nI (t_E c n (t_E c n a)), nI (t_K c n (t_E c n a)), nI (t_S c n (t_E c n a)), va', si', 0, -1) ∧ f_X12_number 0 (nI most) 0 (-1) (nI n) (nI (t_E c n a)) (nI (t_K c n a)) (nI (t_S c n a)) (nI (t_E c n a - t_S c n a)) (t_mv c n a) (t_ms c n a) (t_mw c n a) tM = some (nI v, 0, -1, nI (t_E c n (t_E c n a)), nI (t_K c n (t_E c n a)), nI (t_S c n (t_E c n a)), nI (t_E c n (t_E c n a) - t_S c n (t_E c n a)), t_mv c n (t_E c n a), t_ms c n (t_E c n a), t_mw c n (t_E c n a))) ∨
    (∃ (f s : Nat) (v : Int32), 0 < f ∧ f < 100 ∧ f_X5_readNumber (nI most) (nI n) (nI (t_E c n a)) (nI (t_K c n a)) (nI (t_S c n a)) va si 0 (-1) tC = some (0, nI (t_E c n a), 5, nI (t_S c n a), va, si, nI f, nI s) ∧ f_X12_number 0 (nI most) 0 (-1) (nI n) (nI (t_E c n a)) (nI (t_K c n a)) (nI (t_S c n a)) (nI (t_E c n a - t_S c n a)) (t_mv c n a) (t_ms c n a) (t_mw c n a) tM = some (v, nI f, nI s, nI (t_E c n a), nI (t_K c n a), nI (t_S c n a), nI (t_E c n a - t_S c n a), t_mv c n a, t_ms c n a, t_mw c n a)) := by
  obtain ⟨hE1, hE2, hE3⟩ := t_E_le c ha
  have hKl := t_K_le c n a
  have g2 : f_X12_isGood 2 = some 0 := by decide
  have g1 : f_X12_isGood 1 = some 0 := by decide
  unfold f_X5_readNumber f_X8_isNumber f_X12_number
  rw [x_good0, gs_b1_s, if_neg n10]
  by_cases k2 : t_K c n a = 2
  · have hmv : t_mv c n a = nI (t_V c n a) := by unfold t_mv; rw [if_pos k2]
    have hva := hv.1 k2
    subst hva
    have hV := t_V_le c ha k2
    have hk5 : nI (t_K c n a) ≠ 5 := n_ne 5 5 rfl (by omega) (by decide) (by omega)
    have bad : (∃ (f s : Nat) (v : Int32), 0 < f ∧ f < 100 ∧ f_X5_readNumber_41 (nI (t_E c n a)) (nI (t_K c n a)) (nI (t_S c n a)) (nI (t_V c n a)) si 0 (-1) = some (0, nI (t_E c n a), 5, nI (t_S c n a), nI (t_V c n a), si, nI f, nI s) ∧ f_X12_number_49 0 (-1) (nI n) (nI (t_E c n a)) (nI (t_K c n a)) (nI (t_S c n a)) (nI (t_E c n a - t_S c n a)) (t_mv c n a) (t_ms c n a) (t_mw c n a) tM = some (v, nI f, nI s, nI (t_E c n a), nI (t_K c n a), nI (t_S c n a), nI (t_E c n a - t_S c n a), t_mv c n a, t_ms c n a, t_mw c n a)) := by
      refine ⟨2, t_S c n a, t_mv c n a, by decide, by decide, ?_, ?_⟩
      · unfold f_X5_readNumber_41
        rw [k_fail0, g_b3_s]
        rfl
      · unfold f_X12_number_49
        rw [x_wrong0, g_b2_s]
        unfold f_X12_number_54
        rw [g2, gs_b1_s, if_pos rfl]
        rfl
    rw [hmv] at bad ⊢
    rw [if_pos (show nI (t_K c n a) = 2 from by rw [k2]; rfl), gs_b1_s, if_neg n10, if_pos (show nI (t_K c n a) = 2 from by rw [k2]; rfl)]
    unfold f_X8_isTooLong
    rw [pk_sub hE1]
    by_cases hl : t_E c n a - t_S c n a ≤ 4
    · rw [if_pos (show nI (t_E c n a - t_S c n a) ≤ 4 from nI_le (b := 4) hl (by omega)), gs_b1_s, if_pos rfl, if_neg (show ¬ (4 : Int32) < nI (t_E c n a - t_S c n a) from nI_nlt (a := 4) hl (by omega)), if_neg (nI_pos (by omega))]
      by_cases hb : t_V c n a ≤ most
      · left
        obtain ⟨va', si', en, hv'⟩ := t_next hn hC hk5 (nI (t_S c n a)) (nI (t_V c n a)) si hE2
        rw [if_pos (nI_le hb (by omega)), if_pos (nI_le hb (by omega)), en, g_b5_s]
        unfold f_X12_number_54
        rw [x_good0, gs_b1_s, if_neg n10, t_goes hn hM _ _ _ _ _ _ hE2, g_b7_s]
        exact ⟨k2, _, _, _, rfl, hb, hv', rfl, rfl⟩
      · right
        rw [if_neg (nI_ge (by omega) (by omega)), if_neg (nI_ge (by omega) (by omega))]
        exact bad
    · right
      rw [if_neg (show ¬ nI (t_E c n a - t_S c n a) ≤ 4 from nI_ge (a := 4) (by omega) (by omega)), gs_b1_s, if_neg n10, if_pos (show (4 : Int32) < nI (t_E c n a - t_S c n a) from nI_lt (a := 4) (by omega) (by omega))]
      exact bad
  · right
    rw [if_neg (n_ne 2 2 rfl (by omega) (by decide) k2), gs_b1_s, if_pos rfl, k_fail0, g_b3_s, if_neg (n_ne 2 2 rfl (by omega) (by decide) k2), x_wrong0, g_b2_s]
    unfold f_X12_number_54
    rw [g1, gs_b1_s, if_pos rfl]
    exact ⟨1, t_S c n a, _, by decide, by decide, rfl, rfl⟩
theorem z_one {a many : Nat} {va si : Int32} (hn : n ≤ 700) (hmany : many < 1000) (ha : a ≤ n) (hv : t_Cv c n a va si) :
    (t_K c n a = 2 ∧ ∃ v : Nat, v < many ∧ t_mv c n a = nI v ∧ f_X5_lookAtTold (nI many) (nI (t_E c n a)) (nI (t_K c n a)) (nI (t_S c n a)) va 0 (-1) = some (nI v, nI (t_K c n a), 0, -1) ∧ f_X12_isOneOf (nI many) 0 (-1) (nI (t_K c n a)) (nI (t_S c n a)) (nI (t_E c n a - t_S c n a)) (t_mv c n a) = some (1, 0, -1)) ∨
    (∃ f : Nat, 0 < f ∧ f < 100 ∧ f_X5_lookAtTold (nI many) (nI (t_E c n a)) (nI (t_K c n a)) (nI (t_S c n a)) va 0 (-1) = some (0, 5, nI f, nI (t_S c n a)) ∧ f_X12_isOneOf (nI many) 0 (-1) (nI (t_K c n a)) (nI (t_S c n a)) (nI (t_E c n a - t_S c n a)) (t_mv c n a) = some (0, nI f, nI (t_S c n a))) := by
  obtain ⟨hE1, hE2, hE3⟩ := t_E_le c ha
  have hKl := t_K_le c n a
  have g1 : f_X12_isOneOf_54 1 (nI (t_S c n a)) = some (0, 1, nI (t_S c n a)) := rfl
  have g2 : f_X12_isOneOf_54 2 (nI (t_S c n a)) = some (0, 2, nI (t_S c n a)) := rfl
  have g3 : f_X12_isOneOf_54 3 (nI (t_S c n a)) = some (0, 3, nI (t_S c n a)) := rfl
  have g0 : f_X12_isOneOf_54 0 (-1) = some (1, 0, -1) := rfl
  unfold f_X5_lookAtTold f_X8_isNumber f_X12_isOneOf
  rw [x_good0, gs_b1_s, if_neg n10]
  by_cases k2 : t_K c n a = 2
  · have hmv : t_mv c n a = nI (t_V c n a) := by unfold t_mv; rw [if_pos k2]
    have hV := t_V_le c ha k2
    rw [if_pos (show nI (t_K c n a) = 2 from by rw [k2]; rfl), gs_b1_s, if_neg n10, if_pos (show nI (t_K c n a) = 2 from by rw [k2]; rfl)]
    unfold f_X8_isTooLong
    rw [pk_sub hE1, hv.1 k2, hmv]
    by_cases hl : t_E c n a - t_S c n a ≤ 4
    · have hl' : nI (t_E c n a - t_S c n a) ≤ 4 := nI_le (b := 4) hl (by omega)
      rw [if_pos hl', gs_b1_s, if_pos rfl, if_pos hl']
      by_cases hb : t_V c n a < many
      · left
        rw [if_pos (nI_lt hb (by omega)), if_pos (nI_lt hb (by omega)), g0]
        exact ⟨k2, _, hb, rfl, rfl, rfl⟩
      · right
        rw [if_neg (nI_nlt (by omega) (by omega)), if_neg (nI_nlt (by omega) (by omega)), k_fail0, g_b3_s, x_wrong0, g_b2_s, g3]
        exact ⟨3, by decide, by decide, rfl, rfl⟩
    · right
      have hl' : ¬ nI (t_E c n a - t_S c n a) ≤ 4 := nI_ge (a := 4) (by omega) (by omega)
      rw [if_neg hl', gs_b1_s, if_neg n10, if_neg hl', k_fail0, g_b3_s, x_wrong0, g_b2_s, g2]
      exact ⟨2, by decide, by decide, rfl, rfl⟩
  · right
    rw [if_neg (n_ne 2 2 rfl (by omega) (by decide) k2), gs_b1_s, if_pos rfl, k_fail0, g_b3_s, if_neg (n_ne 2 2 rfl (by omega) (by decide) k2), x_wrong0, g_b2_s, g1]
    exact ⟨1, by decide, by decide, rfl, rfl⟩
end NU
