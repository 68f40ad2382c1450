/-! ===== pure rows: a line ===== -/
def z_I (c : Nat → Nat) (n a S P ce top : Nat) (len mem : Nat → Nat) (rF rL : Option (List Nat)) (va si fF fT lF lT fA lA : Int32) (L Fs ME W CC C TO ML MF MW M CM IT : Nat → Int32) : Prop :=
  (a ≤ n ∧ t_Cv c n a va si ∧ ce ≤ t_S c n a ∧ top ≤ 2 * t_S c n a) ∧ z_Z S P len mem L Fs ME W C TO ML MF MW M IT ∧ z_rl (v_V 1) CC fF fT CM fA rF ce top ∧ z_rl (v_V 0) CC lF lT CM lA rL ce top
/-- both have read a line -/
def z_good (c : Nat → Nat) (n a0 : Nat) (oc : Option (Int32 × Int32 × Int32 × Int32 × Int32 × Int32 × Int32 × Int32 × Int32 × Int32 × Int32 × Int32 × Int32 × Int32 × (Nat → Int32) × (Nat → Int32) × (Nat → Int32) × (Nat → Int32) × (Nat → Int32) × (Nat → Int32) × (Nat → Int32) × Int32)) (om : Option (Int32 × Int32 × Int32 × Int32 × Int32 × Int32 × Int32 × Int32 × Int64 × Int32 × Int32 × Int32 × Int32 × Int32 × Int32 × Int32 × Int32 × Int32 × (Nat → Int32) × (Nat → Int32) × (Nat → Int32) × (Nat → Int32) × (Nat → Int32) × (Nat → Int32) × (Nat → Int32) × (Nat → Int32))) : Prop :=
  ∃ (a S P ce top : Nat) (len mem : Nat → Nat) (rF rL : Option (List Nat)) (va si fF fT lF lT oF fA lA fv lv wt dp : Int32) (L Fs ME W CC C TO ML MF MW M CM ws ts IT : Nat → Int32),
    oc = some (nI (t_E c n a), nI (t_K c n a), nI (t_S c n a), va, si, 0, -1, nI S, nI P, nI ce, fF, fT, lF, lT, L, Fs, ME, W, CC, C, TO, oF) ∧
    om = some (0, -1, nI (t_E c n a), nI (t_K c n a), nI (t_S c n a), nI (t_E c n a - t_S c n a), t_mv c n a, t_ms c n a, t_mw c n a, nI S, nI P, fA, lA, nI top, fv, lv, wt, dp, ML, MF, MW, M, CM, ws, ts, IT) ∧
    t_S c n a0 < t_S c n a ∧ z_I c n a S P ce top len mem rF rL va si fF fT lF lT fA lA L Fs ME W CC C TO ML MF MW M CM IT
def z_bad (oc : Option (Int32 × Int32 × Int32 × Int32 × Int32 × Int32 × Int32 × Int32 × Int32 × Int32 × Int32 × Int32 × Int32 × Int32 × (Nat → Int32) × (Nat → Int32) × (Nat → Int32) × (Nat → Int32) × (Nat → Int32) × (Nat → Int32) × (Nat → Int32) × Int32)) (om : Option (Int32 × Int32 × Int32 × Int32 × Int32 × Int32 × Int32 × Int32 × Int64 × Int32 × Int32 × Int32 × Int32 × Int32 × Int32 × Int32 × Int32 × Int32 × (Nat → Int32) × (Nat → Int32) × (Nat → Int32) × (Nat → Int32) × (Nat → Int32) × (Nat → Int32) × (Nat → Int32) × (Nat → Int32))) : Prop :=
  ∃ f s : Nat, 0 < f ∧ f < 100 ∧ (∃ ats st va si r, oc = some (ats, 5, st, va, si, nI f, nI s, r)) ∧ ∃ r, om = some (nI f, nI s, r)
theorem g_b17_s {α1 α2 α3 α4 α5 α6 α7 α8 α9 α10 α11 α12 α13 α14 α15 α16 α17 β : Type} {a1 : α1} {a2 : α2} {a3 : α3} {a4 : α4} {a5 : α5} {a6 : α6} {a7 : α7} {a8 : α8} {a9 : α9} {a10 : α10} {a11 : α11} {a12 : α12} {a13 : α13} {a14 : α14} {a15 : α15} {a16 : α16} {a17 : α17} {k : α1 → α2 → α3 → α4 → α5 → α6 → α7 → α8 → α9 → α10 → α11 → α12 → α13 → α14 → α15 → α16 → α17 → Option β} : gs_b17 (some (a1, a2, a3, a4, a5, a6, a7, a8, a9, a10, a11, a12, a13, a14, a15, a16, a17)) k = k a1 a2 a3 a4 a5 a6 a7 a8 a9 a10 a11 a12 a13 a14 a15 a16 a17 := rfl
section LN
variable {c : Nat → Nat} {n : Nat} {tC tM : Nat → Int32}
/-- a line's end -/
theorem z_end (hn : n ≤ 700) (hC : ∀ j, j < n → c j < 256 ∧ tC j = sb_b (c j)) (hM : ∀ j, j < n → c j < 256 ∧ tM j = nI (c j)) {a0 a S P ce top : Nat} {len mem : Nat → Nat} {rF rL : Option (List Nat)} {va si fF fT lF lT oF fA lA fv lv wt dp : Int32} {L Fs ME W CC C TO ML MF MW M CM ws ts IT : Nat → Int32} (h0 : t_S c n a0 ≤ t_S c n a) (hI : z_I c n a S P ce top len mem rF rL va si fF fT lF lT fA lA L Fs ME W CC C TO ML MF MW M CM IT) :
    z_good c n a0 (f_X5_readLine_122 (nI n) (nI (t_E c n a)) (nI (t_K c n a)) (nI (t_S c n a)) va si 0 (-1) tC (nI S) (nI P) (nI ce) fF fT lF lT L Fs ME W CC C TO oF) (f_X12_line_213 0 (-1) (nI n) (nI (t_E c n a)) (nI (t_K c n a)) (nI (t_S c n a)) (nI (t_E c n a - t_S c n a)) (t_mv c n a) (t_ms c n a) (t_mw c n a) (nI S) (nI P) fA lA (nI top) fv lv wt dp tM ML MF MW M CM ws ts IT) ∨ z_bad (f_X5_readLine_122 (nI n) (nI (t_E c n a)) (nI (t_K c n a)) (nI (t_S c n a)) va si 0 (-1) tC (nI S) (nI P) (nI ce) fF fT lF lT L Fs ME W CC C TO oF) (f_X12_line_213 0 (-1) (nI n) (nI (t_E c n a)) (nI (t_K c n a)) (nI (t_S c n a)) (nI (t_E c n a - t_S c n a)) (t_mv c n a) (t_ms c n a) (t_mw c n a) (nI S) (nI P) fA lA (nI top) fv lv wt dp tM ML MF MW M CM ws ts IT) := by
  obtain ⟨⟨ha, hv, hce, htop⟩, hZ, hF, hL⟩ := hI
  obtain ⟨hE1, hE2, hE3⟩ := t_E_le c ha
  obtain ⟨hS1, hS2⟩ := t_S_le c hE2
  have hKl := t_K_le c n a
  have h256 : ∀ j, j < n → c j < 256 := fun j hj => (hC j hj).1
  have sC : f_X8_isSign 59 (nI (t_K c n a)) si = some (if t_G c n a 59 = true then 1 else 0) := t_signC h256 hv (w := 59) (by decide)
  have sM : f_X12_isSign 59 (nI (t_K c n a)) (t_ms c n a) = some (if t_G c n a 59 = true then 1 else 0) := t_signM h256 (w := 59) (by decide)
  unfold f_X5_readLine_122 f_X12_line_213
  rw [sC, sM, gs_b1_s, gs_b1_s]
  unfold f_X12_need
  rw [x_good0, gs_b1_s, if_neg n10]
  by_cases g : t_G c n a 59 = true
  · left
    have k3 := (t_G_K g).1
    have hlt := hE3 (by omega)
    have hk5 : nI (t_K c n a) ≠ 5 := n_ne 5 5 rfl (by omega) (by decide) (by omega)
    obtain ⟨va1, si1, en, hv1⟩ := t_next hn hC hk5 (nI (t_S c n a)) va si hE2
    rw [if_pos g, if_neg n10, if_neg n10, t_goes hn hM _ _ _ _ _ _ hE2, g_b7_s, g_b9_s]
    unfold f_X5_readLine_142
    rw [en, g_b5_s]
    exact ⟨t_E c n a, S, P, ce, top, len, mem, rF, rL, va1, si1, fF, fT, lF, lT, oF, fA, lA, fv, lv, wt, dp, L, Fs, ME, W, CC, C, TO, ML, MF, MW, M, CM, ws, ts, IT, rfl, rfl, by omega, ⟨hE2, hv1, by omega, by omega⟩, hZ, hF, hL⟩
  · right
    rw [if_neg g, if_pos rfl, if_pos rfl, k_fail0, g_b3_s, x_wrong0, g_b2_s, g_b9_s]
    unfold f_X5_readLine_142
    rw [k_next5, g_b5_s]
    exact ⟨1, t_S c n a, by decide, by decide, ⟨_, _, _, _, _, rfl⟩, ⟨_, rfl⟩⟩
theorem z_endC {f : Nat} (hf1 : 0 < f) (hf2 : f < 100) (L0 ats st va si p a1 a2 a3 a4 a5 a6 a7 oF : Int32) (tx b1 b2 b3 b4 b5 b6 b7 : Nat → Int32) : ∃ r, f_X5_readLine_122 L0 ats 5 st va si (nI f) p tx a1 a2 a3 a4 a5 a6 a7 b1 b2 b3 b4 b5 b6 b7 oF = some (ats, 5, st, va, si, nI f, p, r) := by
  unfold f_X5_readLine_122
  rw [k_sign5, gs_b1_s, if_pos rfl, k_fail5 (x_fne hf1 hf2), g_b3_s]
  unfold f_X5_readLine_142
  rw [k_next5, g_b5_s]
  exact ⟨_, rfl⟩
theorem z_endM {f : Nat} (hf1 : 0 < f) (hf2 : f < 100) (fp L0 nx so pl lo va si : Int32) (wo : Int64) (a1 a2 a3 a4 a5 a6 a7 a8 a9 : Int32) (tx b1 b2 b3 b4 b5 b6 b7 b8 : Nat → Int32) : ∃ r, f_X12_line_213 (nI f) fp L0 nx so pl lo va si wo a1 a2 a3 a4 a5 a6 a7 a8 a9 tx b1 b2 b3 b4 b5 b6 b7 b8 = some (nI f, fp, r) := by
  have e : ∃ x, f_X12_isSign 59 so si = some x := by
    unfold f_X12_isSign
    split
    · split
      · exact ⟨_, rfl⟩
      · exact ⟨_, rfl⟩
    · exact ⟨_, rfl⟩
  obtain ⟨x, e⟩ := e
  unfold f_X12_line_213
  rw [e, gs_b1_s]
  unfold f_X12_need
  rw [x_goodf hf1 hf2, gs_b1_s, if_pos rfl, g_b9_s]
  exact ⟨_, rfl⟩
theorem z_beg0 (hn : n ≤ 700) (hM : ∀ j, j < n → c j < 256 ∧ tM j = nI (c j)) {a : Nat} (ha : a ≤ n) : f_X12_begins 0 0 0 (-1) (nI n) (nI (t_E c n a)) (nI (t_K c n a)) (nI (t_S c n a)) (nI (t_E c n a - t_S c n a)) (t_mv c n a) (t_ms c n a) (t_mw c n a) tM = some (1, 0, -1, nI (t_E c n (t_E c n a)), nI (t_K c n (t_E c n a)), nI (t_S c n (t_E c n a)), nI (t_E c n (t_E c n a) - t_S c n (t_E c n a)), t_mv c n (t_E c n a), t_ms c n (t_E c n a), t_mw c n (t_E c n a)) := by
  obtain ⟨hE1, hE2, hE3⟩ := t_E_le c ha
  unfold f_X12_begins f_X12_begins_9 f_X12_begins_18
  rw [if_pos rfl, if_pos rfl, x_good0, gs_b1_s, if_neg n10, t_goes hn hM _ _ _ _ _ _ hE2, g_b7_s]
theorem z_beg2 (a : Nat) : f_X12_begins 1 0 0 (-1) (nI n) (nI (t_E c n a)) (nI (t_K c n a)) (nI (t_S c n a)) (nI (t_E c n a - t_S c n a)) (t_mv c n a) (t_ms c n a) (t_mw c n a) tM = some (0, 2, nI (t_S c n a), nI (t_E c n a), nI (t_K c n a), nI (t_S c n a), nI (t_E c n a - t_S c n a), t_mv c n a, t_ms c n a, t_mw c n a) := by
  have g2 : f_X12_isGood 2 = some 0 := by decide
  unfold f_X12_begins f_X12_begins_9 f_X12_begins_18
  rw [if_neg n10, x_wrong0, g_b2_s, if_pos rfl, g2, gs_b1_s, if_pos rfl]
theorem z_beg5 (a : Nat) : f_X12_begins 0 1 0 (-1) (nI n) (nI (t_E c n a)) (nI (t_K c n a)) (nI (t_S c n a)) (nI (t_E c n a - t_S c n a)) (t_mv c n a) (t_ms c n a) (t_mw c n a) tM = some (0, 5, nI (t_S c n a), nI (t_E c n a), nI (t_K c n a), nI (t_S c n a), nI (t_E c n a - t_S c n a), t_mv c n a, t_ms c n a, t_mw c n a) := by
  have g5 : f_X12_isGood 5 = some 0 := by decide
  unfold f_X12_begins f_X12_begins_9 f_X12_begins_18
  rw [if_pos rfl, if_neg n10, x_wrong0, g_b2_s, g5, gs_b1_s, if_pos rfl]
/-- the line of a rule: what both read -/
theorem z_rule (hn : n ≤ 700) (hC : ∀ j, j < n → c j < 256 ∧ tC j = sb_b (c j)) (hM : ∀ j, j < n → c j < 256 ∧ tM j = nI (c j)) {a o ce top : Nat} (ho : o < 2) (ha : a ≤ n) (hW : t_W c n a < 18) (hlong : t_S c n a + 4 ≤ t_E c n a) (hce : ce ≤ t_S c n a) (htop : top ≤ 2 * t_S c n a) {va si fv lv wt dp : Int32} (CC CM ws ts : Nat → Int32) :
    (∃ (a' : Nat) (d : List Nat) (va' si' : Int32) (CC' CM' ws' ts' : Nat → Int32), (gs_b5 (f_X8_next (nI n) (nI (t_E c n a)) (nI (t_K c n a)) (nI (t_S c n a)) va si tC) fun o2_0 o2_1 o2_2 o2_3 o2_4 => f_X2_readExpr_r 0 (nI o) (nI n) o2_0 o2_1 o2_2 o2_3 o2_4 0 (-1) tC (nI ce) CC) = some (nI (t_E c n a'), nI (t_K c n a'), nI (t_S c n a'), va', si', 0, -1, nI (ce + d.length), CC') ∧ f_X12_expression (nI (v_f0 o)) (nI (v_l0 o)) 0 (-1) (nI n) (nI (t_E c n (t_E c n a))) (nI (t_K c n (t_E c n a))) (nI (t_S c n (t_E c n a))) (nI (t_E c n (t_E c n a) - t_S c n (t_E c n a))) (t_mv c n (t_E c n a)) (t_ms c n (t_E c n a)) (t_mw c n (t_E c n a)) (nI top) fv lv wt dp tM CM ws ts = some (0, -1, nI (t_E c n a'), nI (t_K c n a'), nI (t_S c n a'), nI (t_E c n a' - t_S c n a'), t_mv c n a', t_ms c n a', t_mw c n a', nI (top + m_ln d + 1), nI (v_f0 o), nI (v_l0 o), 0, 1, CM', ws', ts') ∧ t_Cv c n a' va' si' ∧ a' ≤ n ∧ (∀ j, j < ce → CC' j = CC j) ∧ (∀ j, j < top → CM' j = CM j) ∧ ce + d.length ≤ t_S c n a' ∧ top + m_ln d + 1 ≤ 2 * t_S c n a' ∧ t_S c n a ≤ t_S c n a' ∧ z_rl (v_V o) CC' (nI ce) (nI (ce + d.length)) CM' (nI top) (some d) (ce + d.length) (top + m_ln d + 1)) ∨
    (∃ f s, 0 < f ∧ f < 100 ∧ x_cf f s (gs_b5 (f_X8_next (nI n) (nI (t_E c n a)) (nI (t_K c n a)) (nI (t_S c n a)) va si tC) fun o2_0 o2_1 o2_2 o2_3 o2_4 => f_X2_readExpr_r 0 (nI o) (nI n) o2_0 o2_1 o2_2 o2_3 o2_4 0 (-1) tC (nI ce) CC) ∧ x_fin f s (f_X12_expression (nI (v_f0 o)) (nI (v_l0 o)) 0 (-1) (nI n) (nI (t_E c n (t_E c n a))) (nI (t_K c n (t_E c n a))) (nI (t_S c n (t_E c n a))) (nI (t_E c n (t_E c n a) - t_S c n (t_E c n a))) (t_mv c n (t_E c n a)) (t_ms c n (t_E c n a)) (t_mw c n (t_E c n a)) (nI top) fv lv wt dp tM CM ws ts)) := by
  obtain ⟨hE1, hE2, hE3⟩ := t_E_le c ha
  obtain ⟨hS1, hS2⟩ := t_S_le c hE2
  have hKl := t_K_le c n a
  have hk5 : nI (t_K c n a) ≠ 5 := n_ne 5 5 rfl (by omega) (by decide) (by omega)
  obtain ⟨va1, si1, en, hv1⟩ := t_next hn hC hk5 (nI (t_S c n a)) va si hE2
  rw [en, g_b5_s]
  rcases x_whole hn ho hC hM CC CM ws ts fv lv wt dp hE2 hv1 (ce := ce) (top := top) (by omega) (by omega) (by omega) with ⟨a', d, va', si', code', rc', ws', ts', ec, em, hv', ha', ⟨s1, f1⟩, ⟨s2, f2⟩, hl, hok, hus⟩ | H
  · left
    have hSn := (t_S_le c ha').2
    have hml := m_ln_le d
    exact ⟨a', d, va', si', code', rc', ws', ts', ec, em, hv', ha', f1, f2, by omega, by omega, by omega, ce, top, rfl, rfl, rfl, Nat.le_refl _, Nat.le_refl _, by omega, by omega, s1, s2, hok, hus⟩
  · exact Or.inr H
end LN
