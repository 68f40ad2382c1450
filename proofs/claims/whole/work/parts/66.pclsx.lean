/-! ===== pure rows: the class reads an expression ===== -/
theorem k_num5 : f_X8_isNumber 5 = some 0 := by decide
theorem k_sign5 (w si : Int32) : f_X8_isSign w 5 si = some 0 := by
  unfold f_X8_isSign
  rw [if_neg (by decide)]
theorem k_word5 (i : Nat) (ats st : Int32) (tx : Nat → Int32) : f_X8_isWord i ats 5 st tx = some 0 := by
  unfold f_X8_isWord
  rw [if_neg (by decide)]
theorem k_fail5 {f : Int32} (hf : f ≠ 0) (w k st p : Int32) : f_X8_fail w k st f p = some (k, f, p) := by
  unfold f_X8_fail
  rw [if_neg hf]
theorem k_fail0 (w k st p : Int32) : f_X8_fail w k st 0 p = some (5, w, st) := rfl
theorem k_next5 (L ats st va si : Int32) (tx : Nat → Int32) : f_X8_next L ats 5 st va si tx = some (ats, 5, st, va, si) := by
  unfold f_X8_next
  rw [if_pos rfl]
theorem k_emit {ce : Nat} (h : ce < 700) (x : Int32) (code : Nat → Int32) : f_X9_emit x (nI ce) code = some (nI (ce + 1), upd code ce x) := by
  unfold f_X9_emit
  rw [if_neg (show ¬ (700 : Int32) ≤ nI ce from nI_ge (b := 700) h (by omega)), gs_gd_t (gs_in_nI h (by decide)), nI_clamp (by omega), nI_1]
theorem k_emit' {ce : Nat} (h : ce ≤ 700) (x : Int32) (code : Nat → Int32) : ∃ (ce' : Nat) (code' : Nat → Int32), ce' ≤ 700 ∧ f_X9_emit x (nI ce) code = some (nI ce', code') := by
  rcases Nat.lt_or_ge ce 700 with hl | hl
  · exact ⟨ce + 1, _, hl, k_emit hl x code⟩
  · have e : ce = 700 := by omega
    subst e
    exact ⟨700, code, Nat.le_refl _, rfl⟩
section STOP
variable {F : Int32 → Int32 → Int32 → Int32 → Int32 → Int32 → Int32 → Int32 → Int32 → Int32 → (Nat → Int32) → Int32 → (Nat → Int32) → Option (Int32 × Int32 × Int32 × Int32 × Int32 × Int32 × Int32 × Int32 × (Nat → Int32))} {f : Int32}
theorem s_part (hf : f ≠ 0) (x1 o L ats st va si p ce : Int32) (tx code : Nat → Int32) : f_X2_readPart F x1 o L ats 5 st va si f p tx ce code = some (ats, 5, st, va, si, f, p, ce, code) := by
  unfold f_X2_readPart
  rw [k_num5, gs_b1_s, if_pos rfl, if_neg (by decide), k_sign5, gs_b1_s, if_pos rfl, k_fail5 hf, g_b3_s]
theorem s_prod7 (x1 o L ats st va si p ce x2 : Int32) (tx code : Nat → Int32) (K : Int32 → Int32 → Int32 → Int32 → Int32 → Int32 → Int32 → Int32 → Int32 → (Nat → Int32) → Option (Int32 × Int32 × Int32 × Int32 × Int32 × Int32 × Int32 × Int32 × (Nat → Int32))) : f_X2_readProduct_7 F x1 o L tx K x2 ats 5 st va si f p ce code = some (ats, 5, st, va, si, f, p, ce, code) := by
  unfold f_X2_readProduct_7
  by_cases h : 700 ≤ x2
  · rw [if_pos h]
  · rw [if_neg h, k_sign5, gs_b1_s, if_pos rfl, k_sign5, gs_b1_s, if_pos rfl]
theorem s_prod (hf : f ≠ 0) (x1 o L ats st va si p ce : Int32) (tx code : Nat → Int32) : f_X2_readProduct F x1 o L ats 5 st va si f p tx ce code = some (ats, 5, st, va, si, f, p, ce, code) := by
  unfold f_X2_readProduct
  rw [s_part hf, g_b9_s, show gs_fuel = 19999 + 1 from rfl, gs_it_s, s_prod7]
theorem s_sum7 (x1 o L ats st va si p ce x2 : Int32) (tx code : Nat → Int32) (K : Int32 → Int32 → Int32 → Int32 → Int32 → Int32 → Int32 → Int32 → Int32 → (Nat → Int32) → Option (Int32 × Int32 × Int32 × Int32 × Int32 × Int32 × Int32 × Int32 × (Nat → Int32))) : f_X2_readSum_7 F x1 o L tx K x2 ats 5 st va si f p ce code = some (ats, 5, st, va, si, f, p, ce, code) := by
  unfold f_X2_readSum_7
  by_cases h : 700 ≤ x2
  · rw [if_pos h]
  · rw [if_neg h, k_sign5, gs_b1_s, if_pos rfl, k_sign5, gs_b1_s, if_pos rfl]
theorem s_sum (hf : f ≠ 0) (x1 o L ats st va si p ce : Int32) (tx code : Nat → Int32) : f_X2_readSum F x1 o L ats 5 st va si f p tx ce code = some (ats, 5, st, va, si, f, p, ce, code) := by
  unfold f_X2_readSum
  rw [s_prod hf, g_b9_s, show gs_fuel = 19999 + 1 from rfl, gs_it_s, s_sum7]
theorem s_test (hf : f ≠ 0) (x1 o L ats st va si p ce : Int32) (tx code : Nat → Int32) : f_X2_readTest F x1 o L ats 5 st va si f p tx ce code = some (ats, 5, st, va, si, f, p, ce, code) := by
  unfold f_X2_readTest
  rw [s_sum hf, g_b9_s, k_sign5, gs_b1_s, if_pos rfl, k_sign5, gs_b1_s, if_pos rfl]
theorem s_not (hf : f ≠ 0) (x1 o L ats st va si p ce : Int32) (tx code : Nat → Int32) : f_X2_readNot F x1 o L ats 5 st va si f p tx ce code = some (ats, 5, st, va, si, f, p, ce, code) := by
  unfold f_X2_readNot
  rw [show gs_fuel = 19999 + 1 from rfl, gs_it_s]
  unfold f_X2_readNot_2
  rw [if_neg (by decide), k_word5, gs_b1_s, if_pos rfl]
  dsimp only
  unfold f_X2_readNot_33
  rw [k_word5, gs_b1_s, if_pos rfl, s_test hf, g_b9_s, show gs_fuel = 19999 + 1 from rfl, gs_it_s]
  unfold f_X2_readNot_61
  rw [if_pos (by decide)]
theorem s_and7 (x1 o L ats st va si p ce x2 : Int32) (tx code : Nat → Int32) (K : Int32 → Int32 → Int32 → Int32 → Int32 → Int32 → Int32 → Int32 → Int32 → (Nat → Int32) → Option (Int32 × Int32 × Int32 × Int32 × Int32 × Int32 × Int32 × Int32 × (Nat → Int32))) : f_X2_readAnd_7 F x1 o L tx K x2 ats 5 st va si f p ce code = some (ats, 5, st, va, si, f, p, ce, code) := by
  unfold f_X2_readAnd_7
  by_cases h : 700 ≤ x2
  · rw [if_pos h]
  · rw [if_neg h, k_word5, gs_b1_s, if_pos rfl]
theorem s_and (hf : f ≠ 0) (x1 o L ats st va si p ce : Int32) (tx code : Nat → Int32) : f_X2_readAnd F x1 o L ats 5 st va si f p tx ce code = some (ats, 5, st, va, si, f, p, ce, code) := by
  unfold f_X2_readAnd
  rw [s_not hf, g_b9_s, show gs_fuel = 19999 + 1 from rfl, gs_it_s, s_and7]
theorem s_expr69 (x1 o L ats st va si p ce x2 : Int32) (tx code : Nat → Int32) (K : Int32 → Int32 → Int32 → Int32 → Int32 → Int32 → Int32 → Int32 → Int32 → (Nat → Int32) → Option (Int32 × Int32 × Int32 × Int32 × Int32 × Int32 × Int32 × Int32 × (Nat → Int32))) : f_X2_readExpr_69 F x1 o L tx K x2 ats 5 st va si f p ce code = some (ats, 5, st, va, si, f, p, ce, code) := by
  unfold f_X2_readExpr_69
  by_cases h : 700 ≤ x2
  · rw [if_pos h]
  · rw [if_neg h, k_word5, gs_b1_s, if_pos rfl]
/-- nots go behind, whatever was wrong -/
theorem s_nots (ats ki st va si fa p : Int32) : ∀ (d i ce : Nat) (code : Nat → Int32), d < 10 → i + d < 20 → ce ≤ 700 → ∃ (ce' : Nat) (code' : Nat → Int32), ce' ≤ 700 ∧ gs_it (fun _ _ _ => none) (f_X2_readNot_61 F (nI (i + d)) ats ki st va si fa p) (d + 1) (nI i) (nI ce) code = some (ats, ki, st, va, si, fa, p, nI ce', code')
  | 0, i, ce, code, _, hi, hc => by
    refine ⟨ce, code, hc, ?_⟩
    rw [gs_it_s]
    unfold f_X2_readNot_61
    rw [if_pos (nI_le (by omega) (by omega))]
  | d + 1, i, ce, code, hd, hi, hc => by
    obtain ⟨ce1, code1, h1, e1⟩ := k_emit' hc (-22) code
    obtain ⟨ce2, code2, h2, e2⟩ := s_nots ats ki st va si fa p d (i + 1) ce1 code1 (by omega) (by omega) h1
    refine ⟨ce2, code2, h2, ?_⟩
    rw [gs_it_s]
    unfold f_X2_readNot_61
    rw [if_neg (nI_ge (by omega) (by omega)), e1, g_b2_s, nI_1]
    rw [show i + 1 + d = i + (d + 1) by omega] at e2
    exact e2
end STOP
/-- which value a word is: for forgets (1), for fills (0); 99: none -/
def v_W (o W : Nat) : Nat := if o = 1 then [0, 2, 4, 5, 1, 3, 6].getD W 99 else [99, 99, 99, 99, 1, 3, 6, 7, 8].getD W 99
def v_f0 (o : Nat) : Nat := if o = 1 then 0 else 4
def v_l0 (o : Nat) : Nat := if o = 1 then 6 else 8
def v_V (o : Nat) : Nat → Bool := if o = 1 then g_VF else g_VL
theorem v_tab : ∀ o, o < 2 → ∀ W, W < 19 → ((v_W o W = 99 ↔ ¬ (v_f0 o ≤ W ∧ W ≤ v_l0 o)) ∧ (v_W o W ≠ 99 → v_W o W < 9 ∧ g_mv (v_W o W) = W ∧ v_V o (v_W o W) = true)) := by decide +kernel
section VAL
variable {c : Nat → Nat} {n : Nat} {tC : Nat → Int32}
theorem v_cmnV (hn : n ≤ 700) (h : ∀ j, j < n → c j < 256 ∧ tC j = sb_b (c j)) {a : Nat} (ha : a ≤ n) : f_X2_commonValue (nI (t_E c n a)) (nI (t_K c n a)) (nI (t_S c n a)) tC = some (if t_W c n a = 4 then 1 else if t_W c n a = 5 then 3 else if t_W c n a = 6 then 6 else -1) := by
  unfold f_X2_commonValue
  rw [t_isWord hn h ha (i := 3) (by decide), t_isWord hn h ha (i := 4) (by decide), t_isWord hn h ha (i := 5) (by decide), show t_ix 3 = 4 from rfl, show t_ix 4 = 5 from rfl, show t_ix 5 = 6 from rfl]
  by_cases e4 : t_W c n a = 4
  · rw [if_pos e4, gs_b1_s, if_neg n10, if_pos e4]
  rw [if_neg e4, gs_b1_s, if_pos rfl, if_neg e4]
  by_cases e5 : t_W c n a = 5
  · rw [if_pos e5, gs_b1_s, if_neg n10, if_pos e5]
  rw [if_neg e5, gs_b1_s, if_pos rfl, if_neg e5]
  by_cases e6 : t_W c n a = 6
  · rw [if_pos e6, gs_b1_s, if_neg n10, if_pos e6]
  rw [if_neg e6, gs_b1_s, if_pos rfl, if_neg e6]
theorem v_fgtV (hn : n ≤ 700) (h : ∀ j, j < n → c j < 256 ∧ tC j = sb_b (c j)) {a : Nat} (ha : a ≤ n) : f_X2_forgetsValue (nI (t_E c n a)) (nI (t_K c n a)) (nI (t_S c n a)) tC = some (if t_W c n a = 0 then 0 else if t_W c n a = 1 then 2 else if t_W c n a = 2 then 4 else if t_W c n a = 3 then 5 else -1) := by
  unfold f_X2_forgetsValue
  rw [t_isWord hn h ha (i := 6) (by decide), t_isWord hn h ha (i := 7) (by decide), t_isWord hn h ha (i := 8) (by decide), t_isWord hn h ha (i := 9) (by decide), show t_ix 6 = 0 from rfl, show t_ix 7 = 1 from rfl, show t_ix 8 = 2 from rfl, show t_ix 9 = 3 from rfl]
  by_cases e4 : t_W c n a = 0
  · rw [if_pos e4, gs_b1_s, if_neg n10, if_pos e4]
  rw [if_neg e4, gs_b1_s, if_pos rfl, if_neg e4]
  by_cases e5 : t_W c n a = 1
  · rw [if_pos e5, gs_b1_s, if_neg n10, if_pos e5]
  rw [if_neg e5, gs_b1_s, if_pos rfl, if_neg e5]
  by_cases e6 : t_W c n a = 2
  · rw [if_pos e6, gs_b1_s, if_neg n10, if_pos e6]
  rw [if_neg e6, gs_b1_s, if_pos rfl, if_neg e6]
  by_cases e7 : t_W c n a = 3
  · rw [if_pos e7, gs_b1_s, if_neg n10, if_pos e7]
  rw [if_neg e7, gs_b1_s, if_pos rfl, if_neg e7]
theorem v_filV (hn : n ≤ 700) (h : ∀ j, j < n → c j < 256 ∧ tC j = sb_b (c j)) {a : Nat} (ha : a ≤ n) : f_X2_fillsValue (nI (t_E c n a)) (nI (t_K c n a)) (nI (t_S c n a)) tC = some (if t_W c n a = 7 then 7 else if t_W c n a = 8 then 8 else -1) := by
  unfold f_X2_fillsValue
  rw [t_isWord hn h ha (i := 10) (by decide), t_isWord hn h ha (i := 11) (by decide), show t_ix 10 = 7 from rfl, show t_ix 11 = 8 from rfl]
  by_cases e4 : t_W c n a = 7
  · rw [if_pos e4, gs_b1_s, if_neg n10, if_pos e4]
  rw [if_neg e4, gs_b1_s, if_pos rfl, if_neg e4]
  by_cases e5 : t_W c n a = 8
  · rw [if_pos e5, gs_b1_s, if_neg n10, if_pos e5]
  rw [if_neg e5, gs_b1_s, if_pos rfl, if_neg e5]
theorem v_read (hn : n ≤ 700) (h : ∀ j, j < n → c j < 256 ∧ tC j = sb_b (c j)) {a o : Nat} (ha : a ≤ n) (ho : o < 2) (fa pl ce : Int32) (code : Nat → Int32) : f_X2_emitValue (nI o) (nI (t_E c n a)) (nI (t_K c n a)) (nI (t_S c n a)) fa pl tC ce code = f_X2_emitValue_29 (if v_W o (t_W c n a) = 99 then -1 else nI (v_W o (t_W c n a))) (nI (t_K c n a)) (nI (t_S c n a)) fa pl ce code := by
  have hW := t_W_le c n a
  unfold f_X2_emitValue
  rw [v_cmnV hn h ha, gs_b1_s, v_filV hn h ha, v_fgtV hn h ha]
  generalize t_W c n a = W at hW
  have t1 : ∀ W, W < 19 → (if (if W = 4 then (1 : Int32) else if W = 5 then 3 else if W = 6 then 6 else -1) = -1 then (if W = 0 then (0 : Int32) else if W = 1 then 2 else if W = 2 then 4 else if W = 3 then 5 else -1) else (if W = 4 then (1 : Int32) else if W = 5 then 3 else if W = 6 then 6 else -1)) = (if v_W 1 W = 99 then -1 else nI (v_W 1 W)) := by decide +kernel
  have t0 : ∀ W, W < 19 → (if (if W = 4 then (1 : Int32) else if W = 5 then 3 else if W = 6 then 6 else -1) = -1 then (if W = 7 then (7 : Int32) else if W = 8 then 8 else -1) else (if W = 4 then (1 : Int32) else if W = 5 then 3 else if W = 6 then 6 else -1)) = (if v_W 0 W = 99 then -1 else nI (v_W 0 W)) := by decide +kernel
  have ho2 : o = 0 ∨ o = 1 := by omega
  rcases ho2 with e | e
  · subst e
    rw [← t0 W (by omega)]
    by_cases z : (if W = 4 then (1 : Int32) else if W = 5 then 3 else if W = 6 then 6 else -1) = -1
    · rw [if_pos z, if_pos (by decide), gs_b1_s, if_pos z]
    · rw [if_neg z, if_neg z]
  · subst e
    rw [← t1 W (by omega)]
    by_cases z : (if W = 4 then (1 : Int32) else if W = 5 then 3 else if W = 6 then 6 else -1) = -1
    · rw [if_pos z, if_neg (by decide), gs_b1_s, if_pos z]
    · rw [if_neg z, if_neg z]
end VAL
