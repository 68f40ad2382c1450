/-! ===== pure rows: and, or ===== -/
section AO
variable {c : Nat → Nat} {n o ar : Nat} {tC tM : Nat → Int32} {F : Int32 → Int32 → Int32 → Int32 → Int32 → Int32 → Int32 → Int32 → Int32 → Int32 → (Nat → Int32) → Int32 → (Nat → Int32) → Option (Int32 × Int32 × Int32 × Int32 × Int32 × Int32 × Int32 × Int32 × (Nat → Int32))}
/-- the loop over ands -/
theorem x_andL (hn : n ≤ 700) (ho : o < 2) (har : ar ≤ 5) (hC : ∀ j, j < n → c j < 256 ∧ tC j = sb_b (c j)) (hM : ∀ j, j < n → c j < 256 ∧ tM j = nI (c j)) (HF : x_HF c n o ar tC tM F) {a ce top k : Nat} {w : List Nat} {code rc ts : Nat → Int32} (hbk : m_bk 2 w) (hw : ∀ x, x ∈ w → x ≤ 9) (ha : a ≤ n) (hce : ce ≤ t_S c n a) (htop : top + w.length + 1 ≤ 2 * t_S c n a) (hwl : w.length ≤ t_S c n a) (hk : 703 ≤ k + t_S c n a) :
    ∀ (r g j a1 k1 : Nat) (d1 e1 p1 : List Nat) (va1 si1 : Int32) (code1 rc1 ws1 ts1 : Nat → Int32), n - t_S c n a1 ≤ r → r + 1 < g → j ≤ t_S c n a1 → x_GS c n o 2 (5 * ar + 1) (ar + 1) a ce top k w code rc ts a1 d1 e1 p1 va1 si1 code1 rc1 ws1 ts1 k1 → x_NT c n 3 ar a1 ts1 →
      x_S c n o tM 2 ar (5 * ar + 1) (ar + 1) a ce top k w code rc ts (gs_it (fun _ _ _ _ _ _ _ _ _ _ => none) (f_X2_readAnd_7 F (nI ar) (nI o) (nI n) tC) g (nI j) (nI (t_E c n a1)) (nI (t_K c n a1)) (nI (t_S c n a1)) va1 si1 0 (-1) (nI (ce + d1.length)) code1) (x_at c n (nI (v_f0 o)) (nI (v_l0 o)) tM k1 a1 (top + m_ln e1) (p1.length + w.length) (ar + 1) rc1 ws1 ts1) := by
  have h256 : ∀ j, j < n → c j < 256 := fun j hj => (hC j hj).1
  have hSn := (t_S_le c ha).2
  intro r
  induction r with
  | zero =>
    intro g j a1 k1 d1 e1 p1 va1 si1 code1 rc1 ws1 ts1 hr hg hj hGS hNT
    have h := id hGS
    obtain ⟨⟨hv1, ha1⟩, -, -, -, -, -, -, -, -, -⟩ := h
    obtain ⟨hS1, hS2⟩ := t_S_le c ha1
    have hK0 : t_K c n a1 = 0 := by
      unfold t_K
      rw [if_pos (by omega)]
    left
    refine ⟨a1, d1, e1, p1, va1, si1, code1, rc1, ws1, ts1, k1, ?_, rfl, hGS, ?_⟩
    · obtain ⟨g', rfl⟩ : ∃ q, g = q + 1 := ⟨g - 1, by omega⟩
      rw [gs_it_s]
      unfold f_X2_readAnd_7
      have sW : f_X8_isWord 1 (nI (t_E c n a1)) (nI (t_K c n a1)) (nI (t_S c n a1)) tC = some 0 := by
        rw [t_isWord hn hC ha1 (i := 1) (by decide), show t_ix 1 = 15 from rfl, t_K0_W hK0, if_neg (by decide)]
      by_cases h7 : (700 : Int32) ≤ nI j
      · rw [if_pos h7]
      · rw [if_neg h7, sW, gs_b1_s, if_pos rfl]
    · exact ⟨fun _ => ⟨t_K0_G hK0 42, t_K0_G hK0 47⟩, fun _ => ⟨t_K0_G hK0 43, t_K0_G hK0 45⟩, fun _ => Or.inr ⟨t_K0_G hK0 60, t_K0_G hK0 61⟩, fun _ => by rw [t_K0_W hK0]; decide, fun z => absurd z (by decide)⟩
  | succ r ih =>
    intro g j a1 k1 d1 e1 p1 va1 si1 code1 rc1 ws1 ts1 hr hg hj hGS hNT
    have h := id hGS
    obtain ⟨⟨hv1, ha1⟩, ⟨hs1, hs2⟩, ⟨hm1, hm2⟩, hst1, hd1, hp1, hts1, ⟨hq1, hq2, hq3⟩, hvc1, hus1⟩ := h
    obtain ⟨hE1, hE2, hE3⟩ := t_E_le c ha1
    obtain ⟨hS1, hS2⟩ := t_S_le c ha1
    obtain ⟨hS3, hS4⟩ := t_S_le c hE2
    have hKl := t_K_le c n a1
    have hml1 : m_ln e1 + p1.length ≤ 2 * d1.length := by
      have := m_ln_le d1
      rw [hd1, m_ln_app, m_ln_ops] at this
      rw [← hd1] at this
      exact this
    have hpl1 : p1.length ≤ d1.length := by
      rw [hd1, List.length_append, m_ops_len]
      omega
    obtain ⟨g', rfl⟩ : ∃ q, g = q + 1 := ⟨g - 1, by omega⟩
    obtain ⟨k1', rfl⟩ : ∃ q, k1 = q + 1 := ⟨k1 - 1, by omega⟩
    rw [gs_it_s]
    generalize hKK : gs_it (fun _ _ _ _ _ _ _ _ _ _ => none) (f_X2_readAnd_7 F (nI ar) (nI o) (nI n) tC) g' = KK
    unfold f_X2_readAnd_7
    by_cases hW : t_W c n a1 = 15
    · have hk1 := t_W_K (c := c) (n := n) (a := a1) (by omega)
      have hlt := hE3 (by omega)
      obtain ⟨x, hx⟩ : ∃ x : Nat, x = 1 := ⟨_, rfl⟩
      have hmx : m_sr x = 2 := by subst hx; decide
      have hxs : 2 ≤ m_sr x := by omega
      have hcs : (-21 : Int32) = g_cs (20000 + x) := by subst hx; decide
      have hk5 : nI (t_K c n a1) ≠ 5 := fun z => by have := (nI_eq (a := t_K c n a1) (b := 5) (by omega) (by omega)).mp z; omega
      obtain ⟨va2, si2, en, hv2⟩ := t_next hn hC hk5 (nI (t_S c n a1)) va1 si1 hE2
      obtain ⟨rc', ex, hsg, hfr⟩ := x_at_and (fv := nI (v_f0 o)) (lv := nI (v_l0 o)) (k := k1') (dp := ar + 1) (ts := ts1) (rc := rc1) (top := top + m_ln e1) (o := x) hn hM ha1 (by omega) (by omega) (by omega) (by rw [hmx]; exact hp1) (by rw [hmx]; exact hbk) hw hst1 (by omega) (by omega)
      rw [if_neg (show ¬ (700 : Int32) ≤ nI j from nI_ge (b := 700) (by omega) (by omega)), t_isWord hn hC ha1 (i := 1) (by decide), show t_ix 1 = 15 from rfl, if_pos hW, gs_b1_s, if_neg n10, en, g_b5_s, ex, show gs_fuel = 19999 + 1 from rfl]
      · skip
        have hp2 : x_P c n (t_E c n a1) (ce + d1.length) (top + m_ln e1 + p1.length) k1' 19999 va2 si2 (x :: w) (upd ws1 w.length (nI (m_op x))) := by
          refine ⟨hE2, hv2, by omega, by rw [List.length_cons]; omega, by rw [List.length_cons]; omega, by omega, by omega, fun y hy => ?_, ⟨pk_us, m_st_upd (m_st_app (p := p1) hst1) (Nat.le_refl _)⟩⟩
          rcases List.mem_cons.mp hy with z | z
          · omega
          · exact hw y z
        have H := x_not hn ho har hC hM HF (code := code1) (rc := rc') (ts := upd ts1 (ar + 1) 0) hp2 (Or.inr (by subst hx; decide)) pk_us
        rw [List.length_cons] at H
        rcases H with ⟨a3, d2, e2, p2, va3, si3, code3, rc3, ws3, ts3, k3, oc, om, ⟨⟨hv3, ha3⟩, ⟨hs3, hs4⟩, ⟨hm3, hm4⟩, hst3, hd3, hp3, hts3, ⟨hl1, hl2, hl3⟩, hvc3, hus3⟩, hNT3⟩ | ⟨f, s, hf1, hf2, ⟨at2, st2, va3, si3, ce2, code3, hce2, oc⟩, hfin⟩
        · rw [List.length_cons] at om
          rw [oc, g_b9_s, om]
          obtain ⟨hS5, hS6⟩ := t_S_le c ha3
          have hml3 : m_ln e2 + p2.length ≤ 2 * d2.length := by
            have := m_ln_le d2
            rw [hd3, m_ln_app, m_ln_ops] at this
            rw [← hd3] at this
            exact this
          rw [k_emit (by omega), g_b2_s, nI_1 j]
          have hGS : x_GS c n o 2 (5 * ar + 1) (ar + 1) a ce top k w code rc ts a3 (d1 ++ d2 ++ [20000 + x]) (e1 ++ m_ops p1 ++ e2) (p2 ++ [x]) va3 si3 (upd code3 (ce + d1.length + d2.length) (g_cs (20000 + x))) rc3 ws3 ts3 k3 := by
            refine ⟨⟨hv3, ha3⟩, ⟨?_, fun i hi => ?_⟩, ⟨?_, fun i hi => ?_⟩, ?_, ?_, fun y hy => ?_, fun i hi => ?_, ⟨?_, ?_, ?_⟩, fun h hh => ?_, ?_⟩
            · refine g_seg_app (d1 ++ d2) [20000 + x] ce ?_ ?_
              · refine g_seg_cong (a := code3) _ _ (fun i h1 h2 => ?_) (g_seg_app d1 d2 ce (g_seg_cong (a := code1) _ _ (fun i h1 h2 => hs4 i h2) hs1) hs3)
                rw [List.length_append] at h2
                exact pk_un (by omega)
              · refine ⟨?_, trivial⟩
                rw [List.length_append, ← Nat.add_assoc]
                exact pk_us
            · rw [pk_un (by omega), hs4 i (by omega)]
              exact hs2 i hi
            · refine m_sg_app (e1 ++ m_ops p1) e2 top ?_ ?_
              · refine m_sg_app e1 (m_ops p1) top ?_ ?_
                · exact m_sg_cong (a := rc1) _ _ (fun i h1 h2 => by rw [hm4 i (by omega), hfr i (by omega)]) hm1
                · exact m_sg_cong (a := rc') _ _ (fun i h1 h2 => by rw [m_ln_ops] at h2; exact hm4 i (by omega)) hsg
              · rw [m_ln_app, m_ln_ops, ← Nat.add_assoc]
                exact hm3
            · rw [hm4 i (by omega), hfr i (by omega)]
              exact hm2 i hi
            · rw [List.append_assoc]
              exact hst3
            · rw [hd1, hd3]
              unfold m_ops
              rw [List.map_append]
              simp only [List.append_assoc]
              rfl
            · rcases List.mem_append.mp hy with z | z
              · obtain ⟨z1, z2⟩ := hp3 y z
                exact ⟨z1, by omega⟩
              · have e : y = x := by simpa using z
                subst e
                exact ⟨by omega, hxs⟩
            · rw [hts3 i (by omega), pk_un (by omega)]; exact hts1 i hi
            · rw [List.length_append, List.length_append]
              omega
            · rw [List.length_append, List.length_append, List.length_singleton]
              omega
            · omega
            · exact x_vc_bin (hvc1 h hh) (hvc3 (h + 1) (by omega)) (by omega) (by omega)
            · exact g_us_app (g_us_app hus1 hus3) (g_us_op x)
          have elen : ce + d1.length + d2.length + 1 = ce + (d1 ++ d2 ++ [20000 + x]).length := by
            rw [List.length_append, List.length_append, List.length_singleton]
            omega
          have etop : top + m_ln e1 + p1.length + m_ln e2 = top + m_ln (e1 ++ m_ops p1 ++ e2) := by
            rw [m_ln_app, m_ln_app, m_ln_ops]
            omega
          have estk : p2.length + (w.length + 1) = (p2 ++ [x]).length + w.length := by
            rw [List.length_append, List.length_singleton]
            omega
          rw [elen, etop, estk, hcs, ← hKK]
          exact ih g' (j + 1) a3 k3 _ _ _ _ _ _ _ _ _ (by omega) (by omega) (by omega) hGS hNT3
        · right
          have hfne : nI f ≠ 0 := fun z => by have := (nI_eq (a := f) (b := 0) (by omega) (by omega)).mp z; omega
          obtain ⟨ce3, code4, hce3, ee⟩ := k_emit' hce2 (g_cs (20000 + x)) code3
          rw [← hcs] at ee
          rw [oc, g_b9_s, ee, g_b2_s, ← hKK, show g' = (g' - 1) + 1 by omega, gs_it_s, s_and7]
          exact ⟨f, s, hf1, hf2, ⟨_, _, _, _, ce3, _, hce3, rfl⟩, hfin⟩
    · left
      refine ⟨a1, d1, e1, p1, va1, si1, code1, rc1, ws1, ts1, k1' + 1, ?_, rfl, hGS, ?_⟩
      · by_cases h7 : (700 : Int32) ≤ nI j
        · rw [if_pos h7]
        · rw [if_neg h7, t_isWord hn hC ha1 (i := 1) (by decide), show t_ix 1 = 15 from rfl, if_neg hW, gs_b1_s, if_pos rfl]
      · exact ⟨fun _ => hNT.1 (by decide), fun _ => hNT.2.1 (by decide), fun _ => hNT.2.2.1 (by decide), fun _ => hW, fun z => absurd z (by decide)⟩
theorem x_and (hn : n ≤ 700) (ho : o < 2) (har : ar ≤ 5) (hC : ∀ j, j < n → c j < 256 ∧ tC j = sb_b (c j)) (hM : ∀ j, j < n → c j < 256 ∧ tM j = nI (c j)) (HF : x_HF c n o ar tC tM F) {a ce top k m : Nat} {va si : Int32} {w : List Nat} {code rc ws ts : Nat → Int32} (hp : x_P c n a ce top k m va si w ws) (hbk : m_bk 2 w) (hts0 : ts (ar + 1) = 0) :
    x_S c n o tM 2 ar (5 * ar + 1) (ar + 1) a ce top k w code rc ts (f_X2_readAnd F (nI ar) (nI o) (nI n) (nI (t_E c n a)) (nI (t_K c n a)) (nI (t_S c n a)) va si 0 (-1) tC (nI ce) code) (x_op c n (nI (v_f0 o)) (nI (v_l0 o)) tM k (m + 1) 1 a top w.length (ar + 1) rc ws ts) := by
  have H := x_not hn ho har hC hM HF (code := code) (rc := rc) (ts := ts) hp (m_bk_mono (by decide) hbk) hts0
  obtain ⟨ha, hv, hce, htop, hwl, hk, hm, hw, hst⟩ := hp
  have hSn := (t_S_le c ha).2
  unfold f_X2_readAnd
  rcases H with ⟨a1, d1, e1, p1, va1, si1, code1, rc1, ws1, ts1, k1, oc, om, ⟨hb1, hb2, hb3, hb4, hb5, hb6, hb7, hb8, hb9, hb10⟩, hNT1⟩ | ⟨f, s, hf1, hf2, ⟨at2, st2, va1, si1, ce1, code1, hce1, oc⟩, hfin⟩
  · rw [oc, g_b9_s, om]
    have hS1 := t_S_le c hb1.2
    exact x_andL hn ho har hC hM HF hbk hw ha hce htop hwl hk (n - t_S c n a1) gs_fuel 0 a1 k1 d1 e1 p1 va1 si1 code1 rc1 ws1 ts1 (Nat.le_refl _) (by rw [gs_fuel_eq]; omega) (Nat.zero_le _) ⟨hb1, hb2, hb3, hb4, hb5, fun x hx => ⟨(hb6 x hx).1, by have := (hb6 x hx).2; omega⟩, hb7, hb8, fun h hh => hb9 h (by omega), hb10⟩ hNT1
  · right
    rw [oc, g_b9_s, show gs_fuel = 19999 + 1 from rfl, gs_it_s, s_and7]
    exact ⟨f, s, hf1, hf2, ⟨_, _, _, _, ce1, _, hce1, rfl⟩, hfin⟩
/-- the loop over ors -/
theorem x_orL (hn : n ≤ 700) (ho : o < 2) (har : ar ≤ 5) (hC : ∀ j, j < n → c j < 256 ∧ tC j = sb_b (c j)) (hM : ∀ j, j < n → c j < 256 ∧ tM j = nI (c j)) (HF : x_HF c n o ar tC tM F) {a ce top k : Nat} {w : List Nat} {code rc ts : Nat → Int32} (hbk : m_bk 1 w) (hw : ∀ x, x ∈ w → x ≤ 9) (ha : a ≤ n) (hce : ce ≤ t_S c n a) (htop : top + w.length + 1 ≤ 2 * t_S c n a) (hwl : w.length ≤ t_S c n a) (hk : 703 ≤ k + t_S c n a) :
    ∀ (r g j a1 k1 : Nat) (d1 e1 p1 : List Nat) (va1 si1 : Int32) (code1 rc1 ws1 ts1 : Nat → Int32), n - t_S c n a1 ≤ r → r + 1 < g → j ≤ t_S c n a1 → x_GS c n o 1 (5 * ar + 0) (ar + 1) a ce top k w code rc ts a1 d1 e1 p1 va1 si1 code1 rc1 ws1 ts1 k1 → x_NT c n 2 ar a1 ts1 →
      x_S c n o tM 1 ar (5 * ar + 0) (ar + 1) a ce top k w code rc ts (gs_it (fun _ _ _ _ _ _ _ _ _ _ => none) (f_X2_readExpr_69 F (nI ar) (nI o) (nI n) tC) g (nI j) (nI (t_E c n a1)) (nI (t_K c n a1)) (nI (t_S c n a1)) va1 si1 0 (-1) (nI (ce + d1.length)) code1) (x_at c n (nI (v_f0 o)) (nI (v_l0 o)) tM k1 a1 (top + m_ln e1) (p1.length + w.length) (ar + 1) rc1 ws1 ts1) := by
  have h256 : ∀ j, j < n → c j < 256 := fun j hj => (hC j hj).1
  have hSn := (t_S_le c ha).2
  intro r
  induction r with
  | zero =>
    intro g j a1 k1 d1 e1 p1 va1 si1 code1 rc1 ws1 ts1 hr hg hj hGS hNT
    have h := id hGS
    obtain ⟨⟨hv1, ha1⟩, -, -, -, -, -, -, -, -, -⟩ := h
    obtain ⟨hS1, hS2⟩ := t_S_le c ha1
    have hK0 : t_K c n a1 = 0 := by
      unfold t_K
      rw [if_pos (by omega)]
    left
    refine ⟨a1, d1, e1, p1, va1, si1, code1, rc1, ws1, ts1, k1, ?_, rfl, hGS, ?_⟩
    · obtain ⟨g', rfl⟩ : ∃ q, g = q + 1 := ⟨g - 1, by omega⟩
      rw [gs_it_s]
      unfold f_X2_readExpr_69
      have sW : f_X8_isWord 0 (nI (t_E c n a1)) (nI (t_K c n a1)) (nI (t_S c n a1)) tC = some 0 := by
        rw [t_isWord hn hC ha1 (i := 0) (by decide), show t_ix 0 = 16 from rfl, t_K0_W hK0, if_neg (by decide)]
      by_cases h7 : (700 : Int32) ≤ nI j
      · rw [if_pos h7]
      · rw [if_neg h7, sW, gs_b1_s, if_pos rfl]
    · exact ⟨fun _ => ⟨t_K0_G hK0 42, t_K0_G hK0 47⟩, fun _ => ⟨t_K0_G hK0 43, t_K0_G hK0 45⟩, fun _ => Or.inr ⟨t_K0_G hK0 60, t_K0_G hK0 61⟩, fun _ => by rw [t_K0_W hK0]; decide, fun _ => by rw [t_K0_W hK0]; decide⟩
  | succ r ih =>
    intro g j a1 k1 d1 e1 p1 va1 si1 code1 rc1 ws1 ts1 hr hg hj hGS hNT
    have h := id hGS
    obtain ⟨⟨hv1, ha1⟩, ⟨hs1, hs2⟩, ⟨hm1, hm2⟩, hst1, hd1, hp1, hts1, ⟨hq1, hq2, hq3⟩, hvc1, hus1⟩ := h
    obtain ⟨hE1, hE2, hE3⟩ := t_E_le c ha1
    obtain ⟨hS1, hS2⟩ := t_S_le c ha1
    obtain ⟨hS3, hS4⟩ := t_S_le c hE2
    have hKl := t_K_le c n a1
    have hml1 : m_ln e1 + p1.length ≤ 2 * d1.length := by
      have := m_ln_le d1
      rw [hd1, m_ln_app, m_ln_ops] at this
      rw [← hd1] at this
      exact this
    have hpl1 : p1.length ≤ d1.length := by
      rw [hd1, List.length_append, m_ops_len]
      omega
    obtain ⟨g', rfl⟩ : ∃ q, g = q + 1 := ⟨g - 1, by omega⟩
    obtain ⟨k1', rfl⟩ : ∃ q, k1 = q + 1 := ⟨k1 - 1, by omega⟩
    rw [gs_it_s]
    generalize hKK : gs_it (fun _ _ _ _ _ _ _ _ _ _ => none) (f_X2_readExpr_69 F (nI ar) (nI o) (nI n) tC) g' = KK
    unfold f_X2_readExpr_69
    by_cases hW : t_W c n a1 = 16
    · have hk1 := t_W_K (c := c) (n := n) (a := a1) (by omega)
      have hlt := hE3 (by omega)
      obtain ⟨x, hx⟩ : ∃ x : Nat, x = 0 := ⟨_, rfl⟩
      have hmx : m_sr x = 1 := by subst hx; decide
      have hxs : 1 ≤ m_sr x := by omega
      have hcs : (-20 : Int32) = g_cs (20000 + x) := by subst hx; decide
      have hk5 : nI (t_K c n a1) ≠ 5 := fun z => by have := (nI_eq (a := t_K c n a1) (b := 5) (by omega) (by omega)).mp z; omega
      obtain ⟨va2, si2, en, hv2⟩ := t_next hn hC hk5 (nI (t_S c n a1)) va1 si1 hE2
      obtain ⟨rc', ex, hsg, hfr⟩ := x_at_and (fv := nI (v_f0 o)) (lv := nI (v_l0 o)) (k := k1') (dp := ar + 1) (ts := ts1) (rc := rc1) (top := top + m_ln e1) (o := x) hn hM ha1 (by omega) (by omega) (by omega) (by rw [hmx]; exact hp1) (by rw [hmx]; exact hbk) hw hst1 (by omega) (by omega)
      rw [if_neg (show ¬ (700 : Int32) ≤ nI j from nI_ge (b := 700) (by omega) (by omega)), t_isWord hn hC ha1 (i := 0) (by decide), show t_ix 0 = 16 from rfl, if_pos hW, gs_b1_s, if_neg n10, en, g_b5_s, ex, show gs_fuel = 19999 + 1 from rfl]
      · skip
        have hp2 : x_P c n (t_E c n a1) (ce + d1.length) (top + m_ln e1 + p1.length) k1' 19999 va2 si2 (x :: w) (upd ws1 w.length (nI (m_op x))) := by
          refine ⟨hE2, hv2, by omega, by rw [List.length_cons]; omega, by rw [List.length_cons]; omega, by omega, by omega, fun y hy => ?_, ⟨pk_us, m_st_upd (m_st_app (p := p1) hst1) (Nat.le_refl _)⟩⟩
          rcases List.mem_cons.mp hy with z | z
          · omega
          · exact hw y z
        have H := x_and hn ho har hC hM HF (code := code1) (rc := rc') (ts := upd ts1 (ar + 1) 0) hp2 (Or.inr (by subst hx; decide)) pk_us
        rw [List.length_cons] at H
        rcases H with ⟨a3, d2, e2, p2, va3, si3, code3, rc3, ws3, ts3, k3, oc, om, ⟨⟨hv3, ha3⟩, ⟨hs3, hs4⟩, ⟨hm3, hm4⟩, hst3, hd3, hp3, hts3, ⟨hl1, hl2, hl3⟩, hvc3, hus3⟩, hNT3⟩ | ⟨f, s, hf1, hf2, ⟨at2, st2, va3, si3, ce2, code3, hce2, oc⟩, hfin⟩
        · rw [List.length_cons] at om
          rw [oc, g_b9_s, om]
          obtain ⟨hS5, hS6⟩ := t_S_le c ha3
          have hml3 : m_ln e2 + p2.length ≤ 2 * d2.length := by
            have := m_ln_le d2
            rw [hd3, m_ln_app, m_ln_ops] at this
            rw [← hd3] at this
            exact this
          rw [k_emit (by omega), g_b2_s, nI_1 j]
          have hGS : x_GS c n o 1 (5 * ar + 0) (ar + 1) a ce top k w code rc ts a3 (d1 ++ d2 ++ [20000 + x]) (e1 ++ m_ops p1 ++ e2) (p2 ++ [x]) va3 si3 (upd code3 (ce + d1.length + d2.length) (g_cs (20000 + x))) rc3 ws3 ts3 k3 := by
            refine ⟨⟨hv3, ha3⟩, ⟨?_, fun i hi => ?_⟩, ⟨?_, fun i hi => ?_⟩, ?_, ?_, fun y hy => ?_, fun i hi => ?_, ⟨?_, ?_, ?_⟩, fun h hh => ?_, ?_⟩
            · refine g_seg_app (d1 ++ d2) [20000 + x] ce ?_ ?_
              · refine g_seg_cong (a := code3) _ _ (fun i h1 h2 => ?_) (g_seg_app d1 d2 ce (g_seg_cong (a := code1) _ _ (fun i h1 h2 => hs4 i h2) hs1) hs3)
                rw [List.length_append] at h2
                exact pk_un (by omega)
              · refine ⟨?_, trivial⟩
                rw [List.length_append, ← Nat.add_assoc]
                exact pk_us
            · rw [pk_un (by omega), hs4 i (by omega)]
              exact hs2 i hi
            · refine m_sg_app (e1 ++ m_ops p1) e2 top ?_ ?_
              · refine m_sg_app e1 (m_ops p1) top ?_ ?_
                · exact m_sg_cong (a := rc1) _ _ (fun i h1 h2 => by rw [hm4 i (by omega), hfr i (by omega)]) hm1
                · exact m_sg_cong (a := rc') _ _ (fun i h1 h2 => by rw [m_ln_ops] at h2; exact hm4 i (by omega)) hsg
              · rw [m_ln_app, m_ln_ops, ← Nat.add_assoc]
                exact hm3
            · rw [hm4 i (by omega), hfr i (by omega)]
              exact hm2 i hi
            · rw [List.append_assoc]
              exact hst3
            · rw [hd1, hd3]
              unfold m_ops
              rw [List.map_append]
              simp only [List.append_assoc]
              rfl
            · rcases List.mem_append.mp hy with z | z
              · obtain ⟨z1, z2⟩ := hp3 y z
                exact ⟨z1, by omega⟩
              · have e : y = x := by simpa using z
                subst e
                exact ⟨by omega, hxs⟩
            · rw [hts3 i (by omega), pk_un (by omega)]; exact hts1 i hi
            · rw [List.length_append, List.length_append]
              omega
            · rw [List.length_append, List.length_append, List.length_singleton]
              omega
            · omega
            · exact x_vc_bin (hvc1 h hh) (hvc3 (h + 1) (by omega)) (by omega) (by omega)
            · exact g_us_app (g_us_app hus1 hus3) (g_us_op x)
          have elen : ce + d1.length + d2.length + 1 = ce + (d1 ++ d2 ++ [20000 + x]).length := by
            rw [List.length_append, List.length_append, List.length_singleton]
            omega
          have etop : top + m_ln e1 + p1.length + m_ln e2 = top + m_ln (e1 ++ m_ops p1 ++ e2) := by
            rw [m_ln_app, m_ln_app, m_ln_ops]
            omega
          have estk : p2.length + (w.length + 1) = (p2 ++ [x]).length + w.length := by
            rw [List.length_append, List.length_singleton]
            omega
          rw [elen, etop, estk, hcs, ← hKK]
          exact ih g' (j + 1) a3 k3 _ _ _ _ _ _ _ _ _ (by omega) (by omega) (by omega) hGS hNT3
        · right
          have hfne : nI f ≠ 0 := fun z => by have := (nI_eq (a := f) (b := 0) (by omega) (by omega)).mp z; omega
          obtain ⟨ce3, code4, hce3, ee⟩ := k_emit' hce2 (g_cs (20000 + x)) code3
          rw [← hcs] at ee
          rw [oc, g_b9_s, ee, g_b2_s, ← hKK, show g' = (g' - 1) + 1 by omega, gs_it_s, s_expr69]
          exact ⟨f, s, hf1, hf2, ⟨_, _, _, _, ce3, _, hce3, rfl⟩, hfin⟩
    · left
      refine ⟨a1, d1, e1, p1, va1, si1, code1, rc1, ws1, ts1, k1' + 1, ?_, rfl, hGS, ?_⟩
      · by_cases h7 : (700 : Int32) ≤ nI j
        · rw [if_pos h7]
        · rw [if_neg h7, t_isWord hn hC ha1 (i := 0) (by decide), show t_ix 0 = 16 from rfl, if_neg hW, gs_b1_s, if_pos rfl]
      · exact ⟨fun _ => hNT.1 (by decide), fun _ => hNT.2.1 (by decide), fun _ => hNT.2.2.1 (by decide), fun _ => hNT.2.2.2.1 (by decide), fun _ => hW⟩
theorem x_or (hn : n ≤ 700) (ho : o < 2) (har : ar ≤ 5) (hC : ∀ j, j < n → c j < 256 ∧ tC j = sb_b (c j)) (hM : ∀ j, j < n → c j < 256 ∧ tM j = nI (c j)) (HF : x_HF c n o ar tC tM F) {a ce top k m : Nat} {va si : Int32} {w : List Nat} {code rc ws ts : Nat → Int32} (hp : x_P c n a ce top k m va si w ws) (hbk : m_bk 1 w) (hts0 : ts (ar + 1) = 0) :
    x_S c n o tM 1 ar (5 * ar + 0) (ar + 1) a ce top k w code rc ts (f_X2_readExpr F (nI ar) (nI o) (nI n) (nI (t_E c n a)) (nI (t_K c n a)) (nI (t_S c n a)) va si 0 (-1) tC (nI ce) code) (x_op c n (nI (v_f0 o)) (nI (v_l0 o)) tM k (m + 1) 1 a top w.length (ar + 1) rc ws ts) := by
  have H := x_and hn ho har hC hM HF (code := code) (rc := rc) (ts := ts) hp (m_bk_mono (by decide) hbk) hts0
  obtain ⟨ha, hv, hce, htop, hwl, hk, hm, hw, hst⟩ := hp
  have hSn := (t_S_le c ha).2
  unfold f_X2_readExpr
  rw [if_pos (show nI ar < 6 from nI_lt (b := 6) (by omega) (by omega))]
  rcases H with ⟨a1, d1, e1, p1, va1, si1, code1, rc1, ws1, ts1, k1, oc, om, ⟨hb1, hb2, hb3, hb4, hb5, hb6, hb7, hb8, hb9, hb10⟩, hNT1⟩ | ⟨f, s, hf1, hf2, ⟨at2, st2, va1, si1, ce1, code1, hce1, oc⟩, hfin⟩
  · rw [oc, g_b9_s, om]
    have hS1 := t_S_le c hb1.2
    exact x_orL hn ho har hC hM HF hbk hw ha hce htop hwl hk (n - t_S c n a1) gs_fuel 0 a1 k1 d1 e1 p1 va1 si1 code1 rc1 ws1 ts1 (Nat.le_refl _) (by rw [gs_fuel_eq]; omega) (Nat.zero_le _) ⟨hb1, hb2, hb3, hb4, hb5, fun x hx => ⟨(hb6 x hx).1, by have := (hb6 x hx).2; omega⟩, hb7, hb8, fun h hh => hb9 h (by omega), hb10⟩ hNT1
  · right
    rw [oc, g_b9_s, show gs_fuel = 19999 + 1 from rfl, gs_it_s, s_expr69]
    exact ⟨f, s, hf1, hf2, ⟨_, _, _, _, ce1, _, hce1, rfl⟩, hfin⟩
end AO
