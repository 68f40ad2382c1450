/-! ===== pure rows: the model reads an expression, a step each ===== -/
section MB
variable {c : Nat → Nat} {n : Nat} {fv lv : Int32} {tM : Nat → Int32}
theorem x_pt_num (hn : n ≤ 700) (h : ∀ j, j < n → c j < 256 ∧ tM j = nI (c j)) {k a top wt dp : Nat} {rc ws ts : Nat → Int32} (ha : a ≤ n) (hK : t_K c n a = 2) (hl : t_E c n a - t_S c n a ≤ 4) (htop : top + 2 ≤ 1400) : x_pt c n fv lv tM k a top wt dp rc ws ts = x_at c n fv lv tM k (t_E c n a) (top + 2) wt dp (upd (upd rc top 1) (top + 1) (nI (t_V c n a))) ws ts := by
  have hE := t_E_le c ha
  have hv : t_mv c n a = nI (t_V c n a) := by unfold t_mv; rw [if_pos hK]
  unfold x_pt x_at f_X12_operand_120 f_X12_part
  rw [x_good0, gs_b1_s, if_neg n10, if_pos (by rw [hK]; rfl), if_pos (show nI (t_E c n a - t_S c n a) ≤ 4 from nI_le (b := 4) hl (by omega))]
  unfold f_X12_part_29
  rw [m_puts (by omega), g_b2_s, m_puts (by omega), g_b2_s]
  unfold f_X12_part_97
  rw [x_good0, gs_b1_s, if_neg n10, t_goes hn h _ _ _ _ _ _ hE.2.1, g_b7_s, g_b11_s, g_b15_s, hv]
  try rfl
theorem x_pt_long (hn : n ≤ 700) {k a top dp : Nat} {w : List Nat} {rc ws ts : Nat → Int32} (ha : a ≤ n) (hK : t_K c n a = 2) (hl : ¬ t_E c n a - t_S c n a ≤ 4) (hw : ∀ x, x ∈ w → x ≤ 9) (hst : m_st ws w) (h1 : top + w.length + 3 ≤ 1400) (h2 : w.length ≤ 900) : x_fin 2 (t_S c n a) (x_pt c n fv lv tM (k + 1) a top w.length dp rc ws ts) := by
  have hE := t_E_le c ha
  have g2 : f_X12_isGood 2 = some 0 := by decide
  unfold x_pt f_X12_operand_120 f_X12_part
  rw [x_good0, gs_b1_s, if_neg n10, if_pos (by rw [hK]; rfl), if_neg (show ¬ nI (t_E c n a - t_S c n a) ≤ 4 from nI_ge (a := 4) (by omega) (by omega)), x_wrong0, g_b2_s]
  unfold f_X12_part_29
  rw [m_puts (by omega), g_b2_s, m_puts (by omega), g_b2_s]
  unfold f_X12_part_97
  rw [g2, gs_b1_s, if_pos rfl, g_b11_s, g_b15_s]
  unfold x_KM
  exact x_bad (f := 2) (top := top + 1 + 1) (by decide) (by decide) hw hst (by omega) h2 _ _ _ _ _ _ _ _ _
theorem x_pt_val (hn : n ≤ 700) (h : ∀ j, j < n → c j < 256 ∧ tM j = nI (c j)) {k a top wt dp f0 l0 : Nat} {rc ws ts : Nat → Int32} (ha : a ≤ n) (hK : t_K c n a = 1) (h0 : f0 ≤ t_W c n a) (h1 : t_W c n a ≤ l0) (hl0 : l0 < 18) (htop : top + 2 ≤ 1400) : x_pt c n (nI f0) (nI l0) tM k a top wt dp rc ws ts = x_at c n (nI f0) (nI l0) tM k (t_E c n a) (top + 2) wt dp (upd (upd rc top 2) (top + 1) (nI (t_W c n a))) ws ts := by
  have hE := t_E_le c ha
  unfold x_pt x_at f_X12_operand_120 f_X12_part
  rw [x_good0, gs_b1_s, if_neg n10, if_neg (by rw [hK]; decide), if_pos (by rw [hK]; rfl), t_knw ha hn, if_neg (show ¬ t_W c n a = 18 by omega), gs_b1_s, if_neg (nI_nlt h0 (by omega)), if_pos (nI_le h1 (by omega))]
  unfold f_X12_part_79
  rw [m_puts (by omega), g_b2_s, m_puts (by omega), g_b2_s]
  unfold f_X12_part_97
  rw [x_good0, gs_b1_s, if_neg n10, t_goes hn h _ _ _ _ _ _ hE.2.1, g_b7_s, g_b11_s, g_b15_s]
  try rfl
theorem x_pt_noval (hn : n ≤ 700) {k a top dp f0 l0 : Nat} {w : List Nat} {rc ws ts : Nat → Int32} (ha : a ≤ n) (hK : t_K c n a = 1) (h0 : ¬ (f0 ≤ t_W c n a ∧ t_W c n a ≤ l0)) (hf0 : f0 < 18) (hl0 : l0 < 18) (hw : ∀ x, x ∈ w → x ≤ 9) (hst : m_st ws w) (h1 : top + w.length + 3 ≤ 1400) (h2 : w.length ≤ 900) : x_fin 3 (t_S c n a) (x_pt c n (nI f0) (nI l0) tM (k + 1) a top w.length dp rc ws ts) := by
  have hWl := t_W_le c n a
  have g3 : f_X12_isGood 3 = some 0 := by decide
  unfold x_pt f_X12_operand_120 f_X12_part
  rw [x_good0, gs_b1_s, if_neg n10, if_neg (by rw [hK]; decide), if_pos (by rw [hK]; rfl), t_knw ha hn, gs_b1_s]
  have key : ∀ r9 : Int32, x_fin 3 (t_S c n a) (gs_b15 (gs_b11 (f_X12_part_74 r9 0 (-1) (nI n) (nI (t_E c n a)) (nI (t_K c n a)) (nI (t_S c n a)) (nI (t_E c n a - t_S c n a)) (t_mv c n a) (t_ms c n a) (t_mw c n a) (nI top) tM rc) fun o23_0 o23_1 o23_2 o23_3 o23_4 o23_5 o23_6 o23_7 o23_8 o23_9 o23_10 => some (o23_0, o23_1, o23_2, o23_3, o23_4, o23_5, o23_6, o23_7, o23_8, o23_9, nI w.length, nI dp, o23_10, ws, ts)) (x_KM n (nI f0) (nI l0) tM (k + 1))) := by
    intro r9
    unfold f_X12_part_74
    rw [x_wrong0, g_b2_s]
    unfold f_X12_part_79
    rw [m_puts (by omega), g_b2_s, m_puts (by omega), g_b2_s]
    unfold f_X12_part_97
    rw [g3, gs_b1_s, if_pos rfl, g_b11_s, g_b15_s]
    unfold x_KM
    exact x_bad (f := 3) (top := top + 1 + 1) (by decide) (by decide) hw hst (by omega) h2 _ _ _ _ _ _ _ _ _
  by_cases e18 : t_W c n a = 18
  · rw [if_pos e18]
    by_cases z : (-1 : Int32) < nI f0
    · rw [if_pos z]
      exact key _
    · exact absurd (g_m1_lt (by omega)) z
  · rw [if_neg e18]
    by_cases z : t_W c n a < f0
    · rw [if_pos (nI_lt z (by omega))]
      exact key _
    · rw [if_neg (nI_nlt (by omega) (by omega)), if_neg (nI_ge (by omega) (by omega))]
      exact key _
theorem x_pt_no (hn : n ≤ 700) {k a top dp : Nat} {w : List Nat} {rc ws ts : Nat → Int32} (hK1 : t_K c n a ≠ 1) (hK2 : t_K c n a ≠ 2) (hw : ∀ x, x ∈ w → x ≤ 9) (hst : m_st ws w) (h1 : top + w.length + 1 ≤ 1400) (h2 : w.length ≤ 900) : x_fin 1 (t_S c n a) (x_pt c n fv lv tM (k + 1) a top w.length dp rc ws ts) := by
  have hKl := t_K_le c n a
  have g1 : f_X12_isGood 1 = some 0 := by decide
  unfold x_pt f_X12_operand_120 f_X12_part
  rw [x_good0, gs_b1_s, if_neg n10, if_neg (n_ne 2 2 rfl (by omega) (by decide) hK2), if_neg (n_ne 1 1 rfl (by omega) (by decide) hK1), x_wrong0, g_b2_s]
  unfold f_X12_part_97
  rw [g1, gs_b1_s, if_pos rfl, g_b11_s, g_b15_s]
  unfold x_KM
  exact x_bad (f := 1) (by decide) (by decide) hw hst h1 h2 _ _ _ _ _ _ _ _ _
theorem t_G_K {a w : Nat} (h : t_G c n a w = true) : t_K c n a = 3 ∧ c (t_S c n a) = w := by
  unfold t_G at h
  simpa using h
theorem t_G_W {a w : Nat} (h : t_G c n a w = true) : t_W c n a = 18 := by
  have h1 := (t_G_K h).1
  have h2 := t_W_le c n a
  rcases Nat.lt_or_ge (t_W c n a) 18 with z | z
  · have := t_W_K z
    omega
  · omega
theorem t_G_ne {a w v : Nat} (h : t_G c n a w = true) (hv : v ≠ w) : t_G c n a v = false := by
  have := (t_G_K h).2
  unfold t_G
  rw [this]
  have : (w == v) = false := by simp; omega
  rw [this, Bool.and_false]
theorem t_W_G {a w : Nat} (h : t_W c n a < 18) : t_G c n a w = false := by
  cases e : t_G c n a w with
  | false => rfl
  | true =>
    have := t_G_W e
    omega
/-- the loop looks at its token -/
theorem x_at_s (hn : n ≤ 700) (h : ∀ j, j < n → c j < 256 ∧ tM j = nI (c j)) {k a top wt dp : Nat} {rc ws ts : Nat → Int32} (ha : a ≤ n) :
    x_at c n fv lv tM (k + 1) a top wt dp rc ws ts = if t_W c n a = 15 then f_X12_expression_83 (x_lp n fv lv tM k) 2 1 15 0 (-1) (nI n) (nI (t_E c n a)) (nI (t_K c n a)) (nI (t_S c n a)) (nI (t_E c n a - t_S c n a)) (t_mv c n a) (t_ms c n a) (t_mw c n a) (nI top) fv lv (nI wt) (nI dp) tM rc ws ts else if t_W c n a = 16 then f_X12_expression_83 (x_lp n fv lv tM k) 1 1 16 0 (-1) (nI n) (nI (t_E c n a)) (nI (t_K c n a)) (nI (t_S c n a)) (nI (t_E c n a - t_S c n a)) (t_mv c n a) (t_ms c n a) (t_mw c n a) (nI top) fv lv (nI wt) (nI dp) tM rc ws ts else if (t_G c n a 60 || t_G c n a 61) = true then f_X12_expression_142 (x_lp n fv lv tM k) 1 0 (-1) (nI n) (nI (t_E c n a)) (nI (t_K c n a)) (nI (t_S c n a)) (nI (t_E c n a - t_S c n a)) (t_mv c n a) (t_ms c n a) (t_mw c n a) (nI top) fv lv (nI wt) (nI dp) tM rc ws ts else f_X12_expression_201 (x_lp n fv lv tM k) 1 0 (-1) (nI n) (nI (t_E c n a)) (nI (t_K c n a)) (nI (t_S c n a)) (nI (t_E c n a - t_S c n a)) (t_mv c n a) (t_ms c n a) (t_mw c n a) (nI top) fv lv (nI wt) (nI dp) tM rc ws ts := by
  have hWl := t_W_le c n a
  have h' : ∀ j, j < n → c j < 256 := fun j hj => (h j hj).1
  have s60 : f_X12_isSign 60 (nI (t_K c n a)) (t_ms c n a) = some (if t_G c n a 60 = true then 1 else 0) := t_signM h' (w := 60) (by decide)
  have s61 : f_X12_isSign 61 (nI (t_K c n a)) (t_ms c n a) = some (if t_G c n a 61 = true then 1 else 0) := t_signM h' (w := 61) (by decide)
  have hk : ∀ v : Nat, v < 18 → ((if t_W c n a = 18 then (-1 : Int32) else nI (t_W c n a)) = nI v ↔ t_W c n a = v) := by
    intro v hv
    by_cases e : t_W c n a = 18
    · rw [if_pos e]
      exact ⟨fun z => absurd z (g_m1' (by omega)), fun z => by omega⟩
    · rw [if_neg e]
      exact nI_eq (by omega) (by omega)
  unfold x_at
  rw [x_lp_s]
  generalize x_lp n fv lv tM k = KK
  unfold f_X12_expression_39
  rw [if_neg n10, x_good0, gs_b1_s, if_neg n10, t_knw ha hn, gs_b1_s]
  by_cases e15 : t_W c n a = 15
  · have z : (if t_W c n a = 18 then (-1 : Int32) else nI (t_W c n a)) = 15 := (hk 15 (by decide)).mpr e15
    rw [z, if_pos rfl, if_pos rfl, if_pos e15]
    try rfl
  · have z : ¬ (if t_W c n a = 18 then (-1 : Int32) else nI (t_W c n a)) = 15 := fun z => e15 ((hk 15 (by decide)).mp z)
    rw [if_neg z, if_neg e15]
    by_cases e16 : t_W c n a = 16
    · have z2 : (if t_W c n a = 18 then (-1 : Int32) else nI (t_W c n a)) = 16 := (hk 16 (by decide)).mpr e16
      rw [z2, if_pos rfl, if_neg (by decide), if_pos e16]
      try rfl
    · have z2 : ¬ (if t_W c n a = 18 then (-1 : Int32) else nI (t_W c n a)) = 16 := fun z => e16 ((hk 16 (by decide)).mp z)
      rw [if_neg z2, if_neg e16, s60, gs_b1_s]
      by_cases g60 : t_G c n a 60 = true
      · rw [if_pos g60, if_neg n10, if_pos (by rw [g60]; rfl)]
        try rfl
      · rw [if_neg g60, if_pos rfl, s61, gs_b1_s]
        by_cases g61 : t_G c n a 61 = true
        · rw [if_pos g61, if_neg n10, if_pos (by rw [g61]; simp)]
          try rfl
        · rw [if_neg g61, if_pos rfl, if_neg (by simp [g60, g61])]
          try rfl
theorem x_operand_eq {k top wt dp : Nat} {mn : Int32} {a : Nat} {rc ws ts : Nat → Int32} : gs_b15 (f_X12_operand mn 0 (-1) (nI n) (nI (t_E c n a)) (nI (t_K c n a)) (nI (t_S c n a)) (nI (t_E c n a - t_S c n a)) (t_mv c n a) (t_ms c n a) (t_mw c n a) (nI top) fv lv (nI wt) (nI dp) tM rc ws ts) (fun o0 o1 o2 o3 o4 o5 o6 o7 o8 o9 o10 o11 o12 o13 o14 => x_lp n fv lv tM k 1 o0 o1 o2 o3 o4 o5 o6 o7 o8 o9 o10 o11 o12 o13 o14) = x_op c n fv lv tM k gs_fuel mn a top wt dp rc ws ts := rfl
/-- and, or -/
theorem x_at_and (hn : n ≤ 700) (h : ∀ j, j < n → c j < 256 ∧ tM j = nI (c j)) {k a top dp o : Nat} {p w : List Nat} {rc ws ts : Nat → Int32} (ha : a ≤ n) (ho : o = 0 ∨ o = 1) (hW : t_W c n a = 16 - o) (hdp : dp ≤ 6) (hp : ∀ x, x ∈ p → x < 9 ∧ m_sr o ≤ m_sr x) (hb : m_bk (m_sr o) w) (hw : ∀ x, x ∈ w → x ≤ 9) (hst : m_st ws (p ++ w)) (h1 : top + p.length ≤ 1400) (h2 : p.length + w.length ≤ 900) :
    ∃ rc', x_at c n fv lv tM (k + 1) a top (p.length + w.length) dp rc ws ts = x_op c n fv lv tM k gs_fuel 1 (t_E c n a) (top + p.length) (w.length + 1) dp rc' (upd ws w.length (nI (m_op o))) (upd ts dp 0) ∧ m_sg rc' top (m_ops p) ∧ ∀ j, j < top → rc' j = rc j := by
  have hE := t_E_le c ha
  have hn0 : vp_nar .boolean 0 = 0 := by decide
  rw [x_at_s hn h ha]
  rcases ho with ho | ho
  · subst ho
    obtain ⟨rc', ed, hs, hf⟩ := m_drops (k := 1) (by omega) hb hw p top rc hp hst h1 h2
    refine ⟨rc', ?_, hs, hf⟩
    rw [if_neg (by omega), if_pos hW]
    unfold f_X12_expression_83
    rw [show f_X12_drops 1 (nI top) (nI (p.length + w.length)) rc ws = _ from ed, g_b3_s, if_neg (by decide)]
    unfold f_X12_expression_99
    rw [m_waits (by omega), g_b2_s, gs_gd_t (gs_in_nI (by omega) (by decide)), t_goes hn h _ _ _ _ _ _ hE.2.1, g_b7_s, nI_clamp (by omega), hn0]
    try rfl
  · subst ho
    obtain ⟨rc', ed, hs, hf⟩ := m_drops (k := 2) (by omega) hb hw p top rc hp hst h1 h2
    refine ⟨rc', ?_, hs, hf⟩
    rw [if_pos hW]
    unfold f_X12_expression_83
    rw [show f_X12_drops 2 (nI top) (nI (p.length + w.length)) rc ws = _ from ed, g_b3_s, if_pos rfl]
    unfold f_X12_expression_99
    rw [m_waits (by omega), g_b2_s, gs_gd_t (gs_in_nI (by omega) (by decide)), t_goes hn h _ _ _ _ _ _ hE.2.1, g_b7_s, nI_clamp (by omega), hn0]
    try rfl
/-- a test -/
theorem x_at_test (hn : n ≤ 700) (h : ∀ j, j < n → c j < 256 ∧ tM j = nI (c j)) {k a top dp o : Nat} {p w : List Nat} {rc ws ts : Nat → Int32} (ha : a ≤ n) (ho : o = 3 ∨ o = 4) (hG : t_G c n a (57 + o) = true) (hts : ts dp = 0) (hdp : dp ≤ 6) (hp : ∀ x, x ∈ p → x < 9 ∧ 4 ≤ m_sr x) (hb : m_bk 4 w) (hw : ∀ x, x ∈ w → x ≤ 9) (hst : m_st ws (p ++ w)) (h1 : top + p.length ≤ 1400) (h2 : p.length + w.length ≤ 900) :
    ∃ rc', x_at c n fv lv tM (k + 1) a top (p.length + w.length) dp rc ws ts = x_op c n fv lv tM k gs_fuel 0 (t_E c n a) (top + p.length) (w.length + 1) dp rc' (upd ws w.length (nI (m_op o))) (upd ts dp 1) ∧ m_sg rc' top (m_ops p) ∧ ∀ j, j < top → rc' j = rc j := by
  have hE := t_E_le c ha
  have h' : ∀ j, j < n → c j < 256 := fun j hj => (h j hj).1
  have hn1 : vp_nar .boolean 1 = 1 := by decide
  have hW := t_G_W hG
  obtain ⟨rc', ed, hs, hf⟩ := m_drops (k := 4) (by omega) hb hw p top rc hp hst h1 h2
  refine ⟨rc', ?_, hs, hf⟩
  have s60 : f_X12_isSign 60 (nI (t_K c n a)) (t_ms c n a) = some (if t_G c n a 60 = true then 1 else 0) := t_signM h' (w := 60) (by decide)
  rw [x_at_s hn h ha, if_neg (by omega), if_neg (by omega)]
  rcases ho with ho | ho
  · subst ho
    have hG' : t_G c n a 60 = true := hG
    rw [if_pos (by rw [hG']; rfl)]
    unfold f_X12_expression_142
    rw [gs_gd_t (gs_in_nI (by omega) (by decide)), nI_clamp (by omega), if_pos hts, show f_X12_drops 4 (nI top) (nI (p.length + w.length)) rc ws = _ from ed, g_b3_s, s60, gs_b1_s, if_pos hG', if_neg n10]
    unfold f_X12_expression_176
    rw [m_waits (by omega), g_b2_s, gs_gd_t (gs_in_nI (by omega) (by decide)), t_goes hn h _ _ _ _ _ _ hE.2.1, g_b7_s, nI_clamp (by omega), hn1]
    try rfl
  · subst ho
    have hG' : t_G c n a 61 = true := hG
    have hG60 : t_G c n a 60 = false := t_G_ne hG' (by decide)
    rw [if_pos (by rw [hG', hG60]; rfl)]
    unfold f_X12_expression_142
    rw [gs_gd_t (gs_in_nI (by omega) (by decide)), nI_clamp (by omega), if_pos hts, show f_X12_drops 4 (nI top) (nI (p.length + w.length)) rc ws = _ from ed, g_b3_s, s60, gs_b1_s, hG60, if_neg Bool.false_ne_true, if_pos rfl]
    unfold f_X12_expression_176
    rw [m_waits (by omega), g_b2_s, gs_gd_t (gs_in_nI (by omega) (by decide)), t_goes hn h _ _ _ _ _ _ hE.2.1, g_b7_s, nI_clamp (by omega), hn1]
    try rfl
theorem x_201_add (hn : n ≤ 700) (h : ∀ j, j < n → c j < 256 ∧ tM j = nI (c j)) {k a top dp o : Nat} {p w : List Nat} {rc ws ts : Nat → Int32} (ha : a ≤ n) (ho : o = 5 ∨ o = 6) (hG : t_G c n a (33 + 2 * o) = true) (hp : ∀ x, x ∈ p → x < 9 ∧ 5 ≤ m_sr x) (hb : m_bk 5 w) (hw : ∀ x, x ∈ w → x ≤ 9) (hst : m_st ws (p ++ w)) (h1 : top + p.length ≤ 1400) (h2 : p.length + w.length ≤ 900) :
    ∃ rc', x_at c n fv lv tM (k + 1) a top (p.length + w.length) dp rc ws ts = x_op c n fv lv tM k gs_fuel 0 (t_E c n a) (top + p.length) (w.length + 1) dp rc' (upd ws w.length (nI (m_op o))) ts ∧ m_sg rc' top (m_ops p) ∧ ∀ j, j < top → rc' j = rc j := by
  have hE := t_E_le c ha
  have h' : ∀ j, j < n → c j < 256 := fun j hj => (h j hj).1
  have hW := t_G_W hG
  obtain ⟨rc', ed, hs, hf⟩ := m_drops (k := 5) (by omega) hb hw p top rc hp hst h1 h2
  refine ⟨rc', ?_, hs, hf⟩
  have g60 : t_G c n a 60 = false := t_G_ne hG (by omega)
  have g61 : t_G c n a 61 = false := t_G_ne hG (by omega)
  have s43 : f_X12_isSign 43 (nI (t_K c n a)) (t_ms c n a) = some (if t_G c n a 43 = true then 1 else 0) := t_signM h' (w := 43) (by decide)
  have s45 : f_X12_isSign 45 (nI (t_K c n a)) (t_ms c n a) = some (if t_G c n a 45 = true then 1 else 0) := t_signM h' (w := 45) (by decide)
  rw [x_at_s hn h ha, if_neg (by omega), if_neg (by omega), if_neg (by rw [g60, g61]; decide)]
  unfold f_X12_expression_201
  rw [s43, s45, gs_b1_s]
  rcases ho with ho | ho
  · subst ho
    have hG' : t_G c n a 43 = true := hG
    rw [if_pos hG', if_neg n10]
    unfold f_X12_expression_219
    rw [show f_X12_drops 5 (nI top) (nI (p.length + w.length)) rc ws = _ from ed, g_b3_s, s43, gs_b1_s, if_pos hG', if_neg n10]
    unfold f_X12_expression_241
    rw [m_waits (by omega), g_b2_s, t_goes hn h _ _ _ _ _ _ hE.2.1, g_b7_s]
    try rfl
  · subst ho
    have hG' : t_G c n a 45 = true := hG
    have g43 : t_G c n a 43 = false := t_G_ne hG' (by decide)
    rw [g43, if_neg Bool.false_ne_true, if_pos rfl, gs_b1_s, if_pos hG', if_neg n10]
    unfold f_X12_expression_219
    rw [show f_X12_drops 5 (nI top) (nI (p.length + w.length)) rc ws = _ from ed, g_b3_s, s43, gs_b1_s, g43, if_neg Bool.false_ne_true, if_pos rfl]
    unfold f_X12_expression_241
    rw [m_waits (by omega), g_b2_s, t_goes hn h _ _ _ _ _ _ hE.2.1, g_b7_s]
    try rfl
theorem x_201_mul (hn : n ≤ 700) (h : ∀ j, j < n → c j < 256 ∧ tM j = nI (c j)) {k a top dp o : Nat} {p w : List Nat} {rc ws ts : Nat → Int32} (ha : a ≤ n) (ho : o = 7 ∨ o = 8) (hG : t_G c n a (7 + 5 * o) = true) (hp : ∀ x, x ∈ p → x < 9 ∧ 6 ≤ m_sr x) (hb : m_bk 6 w) (hw : ∀ x, x ∈ w → x ≤ 9) (hst : m_st ws (p ++ w)) (h1 : top + p.length ≤ 1400) (h2 : p.length + w.length ≤ 900) :
    ∃ rc', x_at c n fv lv tM (k + 1) a top (p.length + w.length) dp rc ws ts = x_op c n fv lv tM k gs_fuel 0 (t_E c n a) (top + p.length) (w.length + 1) dp rc' (upd ws w.length (nI (m_op o))) ts ∧ m_sg rc' top (m_ops p) ∧ ∀ j, j < top → rc' j = rc j := by
  have hE := t_E_le c ha
  have h' : ∀ j, j < n → c j < 256 := fun j hj => (h j hj).1
  have hW := t_G_W hG
  obtain ⟨rc', ed, hs, hf⟩ := m_drops (k := 6) (by omega) hb hw p top rc hp hst h1 h2
  refine ⟨rc', ?_, hs, hf⟩
  have g60 : t_G c n a 60 = false := t_G_ne hG (by omega)
  have g61 : t_G c n a 61 = false := t_G_ne hG (by omega)
  have g43 : t_G c n a 43 = false := t_G_ne hG (by omega)
  have g45 : t_G c n a 45 = false := t_G_ne hG (by omega)
  have s43 : f_X12_isSign 43 (nI (t_K c n a)) (t_ms c n a) = some (if t_G c n a 43 = true then 1 else 0) := t_signM h' (w := 43) (by decide)
  have s45 : f_X12_isSign 45 (nI (t_K c n a)) (t_ms c n a) = some (if t_G c n a 45 = true then 1 else 0) := t_signM h' (w := 45) (by decide)
  have s42 : f_X12_isSign 42 (nI (t_K c n a)) (t_ms c n a) = some (if t_G c n a 42 = true then 1 else 0) := t_signM h' (w := 42) (by decide)
  have s47 : f_X12_isSign 47 (nI (t_K c n a)) (t_ms c n a) = some (if t_G c n a 47 = true then 1 else 0) := t_signM h' (w := 47) (by decide)
  rw [x_at_s hn h ha, if_neg (by omega), if_neg (by omega), if_neg (by rw [g60, g61]; decide)]
  unfold f_X12_expression_201
  rw [s43, s45, s42, s47, g43, g45, if_neg Bool.false_ne_true, gs_b1_s, if_pos rfl, gs_b1_s, if_pos rfl, gs_b1_s]
  rcases ho with ho | ho
  · subst ho
    have hG' : t_G c n a 42 = true := hG
    rw [if_pos hG', if_neg n10]
    unfold f_X12_expression_274
    rw [show f_X12_drops 6 (nI top) (nI (p.length + w.length)) rc ws = _ from ed, g_b3_s, s42, gs_b1_s, if_pos hG', if_neg n10]
    unfold f_X12_expression_297
    rw [m_waits (by omega), g_b2_s, t_goes hn h _ _ _ _ _ _ hE.2.1, g_b7_s]
    try rfl
  · subst ho
    have hG' : t_G c n a 47 = true := hG
    have g42 : t_G c n a 42 = false := t_G_ne hG' (by decide)
    rw [g42, if_neg Bool.false_ne_true, if_pos rfl, gs_b1_s, if_pos hG', if_neg n10]
    unfold f_X12_expression_274
    rw [show f_X12_drops 6 (nI top) (nI (p.length + w.length)) rc ws = _ from ed, g_b3_s, s42, gs_b1_s, g42, if_neg Bool.false_ne_true, if_pos rfl]
    unfold f_X12_expression_297
    rw [m_waits (by omega), g_b2_s, t_goes hn h _ _ _ _ _ _ hE.2.1, g_b7_s]
    try rfl
/-- a parenthesis closes -/
theorem x_at_close (hn : n ≤ 700) (h : ∀ j, j < n → c j < 256 ∧ tM j = nI (c j)) {k a top dp : Nat} {p w : List Nat} {rc ws ts : Nat → Int32} (ha : a ≤ n) (hG : t_G c n a 41 = true) (hp : ∀ x, x ∈ p → x < 9) (hw : ∀ x, x ∈ w → x ≤ 9) (hst : m_st ws (p ++ 9 :: w)) (h1 : top + p.length ≤ 1400) (h2 : p.length + (w.length + 1) ≤ 900) :
    ∃ rc', x_at c n fv lv tM (k + 1) a top (p.length + (w.length + 1)) (dp + 1) rc ws ts = x_at c n fv lv tM k (t_E c n a) (top + p.length) w.length dp rc' ws ts ∧ m_sg rc' top (m_ops p) ∧ ∀ j, j < top → rc' j = rc j := by
  have hE := t_E_le c ha
  have h' : ∀ j, j < n → c j < 256 := fun j hj => (h j hj).1
  have hW := t_G_W hG
  have hw9 : ∀ x, x ∈ 9 :: w → x ≤ 9 := fun x hx => by
    rcases List.mem_cons.mp hx with z | z
    · omega
    · exact hw x z
  obtain ⟨rc', ed, hs, hf⟩ := m_drops (k := 0) (w := 9 :: w) (by omega) (Or.inl rfl) hw9 p top rc (fun x hx => ⟨hp x hx, Nat.zero_le _⟩) hst h1 (by rw [List.length_cons]; exact h2)
  rw [List.length_cons] at ed
  refine ⟨rc', ?_, hs, hf⟩
  have hop := m_opened (ws := ws) (p ++ 9 :: w) (fun x hx => by
    rcases List.mem_append.mp hx with z | z
    · have := hp x z; omega
    · exact hw9 x z) hst (by rw [List.length_append, List.length_cons]; exact h2)
  rw [List.length_append, List.length_cons, if_pos (List.mem_append_right _ (List.mem_cons_self ..))] at hop
  have g : ∀ v, v ≠ 41 → t_G c n a v = false := fun v hv => t_G_ne hG hv
  have s41 : f_X12_isSign 41 (nI (t_K c n a)) (t_ms c n a) = some (if t_G c n a 41 = true then 1 else 0) := t_signM h' (w := 41) (by decide)
  have s43 : f_X12_isSign 43 (nI (t_K c n a)) (t_ms c n a) = some (if t_G c n a 43 = true then 1 else 0) := t_signM h' (w := 43) (by decide)
  have s45 : f_X12_isSign 45 (nI (t_K c n a)) (t_ms c n a) = some (if t_G c n a 45 = true then 1 else 0) := t_signM h' (w := 45) (by decide)
  have s42 : f_X12_isSign 42 (nI (t_K c n a)) (t_ms c n a) = some (if t_G c n a 42 = true then 1 else 0) := t_signM h' (w := 42) (by decide)
  have s47 : f_X12_isSign 47 (nI (t_K c n a)) (t_ms c n a) = some (if t_G c n a 47 = true then 1 else 0) := t_signM h' (w := 47) (by decide)
  rw [x_at_s hn h ha, if_neg (by omega), if_neg (by omega), if_neg (by rw [g 60 (by decide), g 61 (by decide)]; decide)]
  unfold f_X12_expression_201
  rw [s43, s45, s42, s47, s41, g 43 (by decide), g 45 (by decide), g 42 (by decide), g 47 (by decide), hG, if_neg Bool.false_ne_true, gs_b1_s, if_pos rfl, gs_b1_s, if_pos rfl, gs_b1_s, if_pos rfl, gs_b1_s, if_pos rfl, gs_b1_s, if_pos rfl, if_neg n10, hop, gs_b1_s, if_neg n10]
  unfold f_X12_closes
  rw [show f_X12_drops 0 (nI top) (nI (p.length + (w.length + 1))) rc ws = _ from ed, g_b3_s, t_goes hn h _ _ _ _ _ _ hE.2.1, g_b7_s, g_b11_s, nI_pred, nI_pred]
  try rfl
/-- no operator: the loop ends -/
theorem x_at_stop (hn : n ≤ 700) (h : ∀ j, j < n → c j < 256 ∧ tM j = nI (c j)) {k a top dp : Nat} {w : List Nat} {rc ws ts : Nat → Int32} (ha : a ≤ n) (hdp : dp ≤ 6) (h15 : t_W c n a ≠ 15) (h16 : t_W c n a ≠ 16) (ht : ts dp ≠ 0 ∨ (t_G c n a 60 = false ∧ t_G c n a 61 = false)) (h43 : t_G c n a 43 = false) (h45 : t_G c n a 45 = false) (h42 : t_G c n a 42 = false) (h47 : t_G c n a 47 = false) (h41 : t_G c n a 41 = false ∨ 9 ∉ w) (hw : ∀ x, x ∈ w → x ≤ 9) (hst : m_st ws w) (h2 : w.length ≤ 900) :
    x_at c n fv lv tM (k + 2) a top w.length dp rc ws ts = f_X12_expression_340 0 (-1) (nI (t_E c n a)) (nI (t_K c n a)) (nI (t_S c n a)) (nI (t_E c n a - t_S c n a)) (t_mv c n a) (t_ms c n a) (t_mw c n a) (nI top) fv lv (nI w.length) (nI dp) rc ws ts := by
  have h' : ∀ j, j < n → c j < 256 := fun j hj => (h j hj).1
  have s41 : f_X12_isSign 41 (nI (t_K c n a)) (t_ms c n a) = some (if t_G c n a 41 = true then 1 else 0) := t_signM h' (w := 41) (by decide)
  have s43 : f_X12_isSign 43 (nI (t_K c n a)) (t_ms c n a) = some (if t_G c n a 43 = true then 1 else 0) := t_signM h' (w := 43) (by decide)
  have s45 : f_X12_isSign 45 (nI (t_K c n a)) (t_ms c n a) = some (if t_G c n a 45 = true then 1 else 0) := t_signM h' (w := 45) (by decide)
  have s42 : f_X12_isSign 42 (nI (t_K c n a)) (t_ms c n a) = some (if t_G c n a 42 = true then 1 else 0) := t_signM h' (w := 42) (by decide)
  have s47 : f_X12_isSign 47 (nI (t_K c n a)) (t_ms c n a) = some (if t_G c n a 47 = true then 1 else 0) := t_signM h' (w := 47) (by decide)
  have e201 : f_X12_expression_201 (x_lp n fv lv tM (k + 1)) 1 0 (-1) (nI n) (nI (t_E c n a)) (nI (t_K c n a)) (nI (t_S c n a)) (nI (t_E c n a - t_S c n a)) (t_mv c n a) (t_ms c n a) (t_mw c n a) (nI top) fv lv (nI w.length) (nI dp) tM rc ws ts = f_X12_expression_340 0 (-1) (nI (t_E c n a)) (nI (t_K c n a)) (nI (t_S c n a)) (nI (t_E c n a - t_S c n a)) (t_mv c n a) (t_ms c n a) (t_mw c n a) (nI top) fv lv (nI w.length) (nI dp) rc ws ts := by
    have e0 : x_lp n fv lv tM (k + 1) 0 0 (-1) (nI (t_E c n a)) (nI (t_K c n a)) (nI (t_S c n a)) (nI (t_E c n a - t_S c n a)) (t_mv c n a) (t_ms c n a) (t_mw c n a) (nI top) (nI w.length) (nI dp) rc ws ts = f_X12_expression_340 0 (-1) (nI (t_E c n a)) (nI (t_K c n a)) (nI (t_S c n a)) (nI (t_E c n a - t_S c n a)) (t_mv c n a) (t_ms c n a) (t_mw c n a) (nI top) fv lv (nI w.length) (nI dp) rc ws ts := by
      rw [x_lp_s]
      unfold f_X12_expression_39
      rw [if_pos rfl]
    unfold f_X12_expression_201
    rw [s43, s45, s42, s47, s41, h43, h45, h42, h47, if_neg Bool.false_ne_true, gs_b1_s, if_pos rfl, gs_b1_s, if_pos rfl, gs_b1_s, if_pos rfl, gs_b1_s, if_pos rfl, gs_b1_s]
    by_cases g41 : t_G c n a 41 = true
    · have h9 : 9 ∉ w := by
        rcases h41 with z | z
        · rw [z] at g41; cases g41
        · exact z
      rw [if_pos g41, if_neg n10, m_opened w hw hst h2, if_neg h9, gs_b1_s, if_pos rfl]
      exact e0
    · rw [if_neg g41, if_pos rfl]
      exact e0
  rw [show k + 2 = (k + 1) + 1 from rfl, x_at_s hn h ha, if_neg h15, if_neg h16]
  by_cases g : (t_G c n a 60 || t_G c n a 61) = true
  · rw [if_pos g]
    have hne : ts dp ≠ 0 := by
      rcases ht with z | z
      · exact z
      · rw [z.1, z.2] at g
        cases g
    unfold f_X12_expression_142
    rw [gs_gd_t (gs_in_nI (by omega) (by decide)), nI_clamp (by omega), if_neg hne]
    exact e201
  · rw [if_neg g]
    exact e201
end MB
