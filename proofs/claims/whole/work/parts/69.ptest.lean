/-! ===== pure rows: a test, nots ===== -/
section TN
variable {c : Nat → Nat} {n o ar : Nat} {tC tM : Nat → Int32} {F : Int32 → Int32 → Int32 → Int32 → Int32 → Int32 → Int32 → Int32 → Int32 → Int32 → (Nat → Int32) → Int32 → (Nat → Int32) → Option (Int32 × Int32 × Int32 × Int32 × Int32 × Int32 × Int32 × Int32 × (Nat → Int32))}
theorem x_test (hn : n ≤ 700) (ho : o < 2) (har : ar ≤ 5) (hC : ∀ j, j < n → c j < 256 ∧ tC j = sb_b (c j)) (hM : ∀ j, j < n → c j < 256 ∧ tM j = nI (c j)) (HF : x_HF c n o ar tC tM F) {a ce top k m : Nat} {va si mn : Int32} {w : List Nat} {code rc ws ts : Nat → Int32} (hp : x_P c n a ce top k m va si w ws) (hbk : m_bk 4 w) (hts0 : ts (ar + 1) = 0) :
    x_S c n o tM 4 ar (5 * ar + 2) (ar + 1) a ce top k w code rc ts (f_X2_readTest F (nI ar) (nI o) (nI n) (nI (t_E c n a)) (nI (t_K c n a)) (nI (t_S c n a)) va si 0 (-1) tC (nI ce) code) (x_75 c n (nI (v_f0 o)) (nI (v_l0 o)) tM k m mn a top w.length (ar + 1) rc ws ts) := by
  have H := x_sum hn ho har hC hM HF (code := code) (rc := rc) (ts := ts) (mn := mn) hp (m_bk_mono (by decide) hbk)
  obtain ⟨ha, hv, hce, htop, hwl, hk, hm, hw, hst⟩ := hp
  have hSn := (t_S_le c ha).2
  have h256 : ∀ j, j < n → c j < 256 := fun j hj => (hC j hj).1
  unfold f_X2_readTest
  rcases H with ⟨a1, d1, e1, p1, va1, si1, code1, rc1, ws1, ts1, k1, oc, om, ⟨⟨hv1, ha1⟩, ⟨hs1, hs2⟩, ⟨hm1, hm2⟩, hst1, hd1, hp1, hts1, ⟨hq1, hq2, hq3⟩, hvc1, hus1⟩, hNT⟩ | ⟨f, s, hf1, hf2, ⟨at2, st2, va1, si1, ce1, code1, hce1, oc⟩, hfin⟩
  · rw [oc, g_b9_s, om]
    obtain ⟨hE1, hE2, hE3⟩ := t_E_le c ha1
    obtain ⟨hS1, hS2⟩ := t_S_le c ha1
    obtain ⟨hS3, hS4⟩ := t_S_le c hE2
    have hKl := t_K_le c n a1
    have hml1 : m_ln e1 + p1.length ≤ 2 * d1.length := by
      have := m_ln_le d1
      rw [hd1, m_ln_app, m_ln_ops] at this
      rw [← hd1] at this
      exact this
    have hpl1 : p1.length ≤ d1.length := by
      rw [hd1, List.length_append, m_ops_len]
      omega
    have hts10 : ts1 (ar + 1) = 0 := by rw [hts1 (ar + 1) (by omega)]; exact hts0
    have sA : f_X8_isSign 60 (nI (t_K c n a1)) si1 = some (if t_G c n a1 60 = true then 1 else 0) := t_signC h256 hv1 (w := 60) (by decide)
    have sB : f_X8_isSign 61 (nI (t_K c n a1)) si1 = some (if t_G c n a1 61 = true then 1 else 0) := t_signC h256 hv1 (w := 61) (by decide)
    obtain ⟨k1', rfl⟩ : ∃ q, k1 = q + 1 := ⟨k1 - 1, by omega⟩
    have turn : ∀ x, (x = 3 ∨ x = 4) → t_G c n a1 (57 + x) = true → ∀ cs, cs = g_cs (20000 + x) → x_S c n o tM 4 ar (5 * ar + 2) (ar + 1) a ce top k w code rc ts (f_X2_readTest_48 F cs (nI ar) (nI o) (nI n) (nI (t_E c n a1)) (nI (t_K c n a1)) (nI (t_S c n a1)) va1 si1 0 (-1) tC (nI (ce + d1.length)) code1) (x_at c n (nI (v_f0 o)) (nI (v_l0 o)) tM (k1' + 1) a1 (top + m_ln e1) (p1.length + w.length) (ar + 1) rc1 ws1 ts1) := by
      intro x hx hG cs hcs
      have hk3 := (t_G_K hG).1
      have hlt := hE3 (by omega)
      have hxs : 4 ≤ m_sr x := by rcases hx with z | z <;> subst z <;> decide
      have hk5 : nI (t_K c n a1) ≠ 5 := fun z => by have := (nI_eq (a := t_K c n a1) (b := 5) (by omega) (by omega)).mp z; omega
      obtain ⟨va2, si2, en, hv2⟩ := t_next hn hC hk5 (nI (t_S c n a1)) va1 si1 hE2
      obtain ⟨rc', ex, hsg, hfr⟩ := x_at_test (fv := nI (v_f0 o)) (lv := nI (v_l0 o)) (k := k1') (dp := ar + 1) (ts := ts1) (rc := rc1) (top := top + m_ln e1) hn hM ha1 hx hG hts10 (by omega) (fun y hy => ⟨(hp1 y hy).1, by have := (hp1 y hy).2; omega⟩) hbk hw hst1 (by omega) (by omega)
      rw [ex, show gs_fuel = 19999 + 1 from rfl, x_op_0]
      unfold f_X2_readTest_48
      rw [en, g_b5_s]
      · skip
        have hp2 : x_P c n (t_E c n a1) (ce + d1.length) (top + m_ln e1 + p1.length) k1' 19999 va2 si2 (x :: w) (upd ws1 w.length (nI (m_op x))) := by
          refine ⟨hE2, hv2, by omega, by rw [List.length_cons]; omega, by rw [List.length_cons]; omega, by omega, by omega, fun y hy => ?_, ⟨pk_us, m_st_upd (m_st_app (p := p1) hst1) (Nat.le_refl _)⟩⟩
          rcases List.mem_cons.mp hy with z | z
          · omega
          · exact hw y z
        have H := x_sum hn ho har hC hM HF (code := code1) (rc := rc') (ts := upd ts1 (ar + 1) 1) hp2 (mn := 0) (Or.inr (by rcases hx with z | z <;> subst z <;> decide))
        rw [List.length_cons] at H
        rcases H with ⟨a3, d2, e2, p2, va3, si3, code3, rc3, ws3, ts3, k3, oc, om, ⟨⟨hv3, ha3⟩, ⟨hs3, hs4⟩, ⟨hm3, hm4⟩, hst3, hd3, hp3, hts3, ⟨hl1, hl2, hl3⟩, hvc3, hus3⟩, hNT3⟩ | ⟨f, s, hf1, hf2, ⟨at2, st2, va3, si3, ce2, code3, hce2, oc⟩, hfin⟩
        · rw [List.length_cons] at om
          rw [oc, g_b9_s, om]
          obtain ⟨hS5, hS6⟩ := t_S_le c ha3
          have hml3 : m_ln e2 + p2.length ≤ 2 * d2.length := by
            have := m_ln_le d2
            rw [hd3, m_ln_app, m_ln_ops] at this
            rw [← hd3] at this
            exact this
          rw [k_emit (by omega), g_b2_s]
          have hGS : x_GS c n o 4 (5 * ar + 2) (ar + 1) a ce top k w code rc ts a3 (d1 ++ d2 ++ [20000 + x]) (e1 ++ m_ops p1 ++ e2) (p2 ++ [x]) va3 si3 (upd code3 (ce + d1.length + d2.length) (g_cs (20000 + x))) rc3 ws3 ts3 k3 := by
            refine ⟨⟨hv3, ha3⟩, ⟨?_, fun i hi => ?_⟩, ⟨?_, fun i hi => ?_⟩, ?_, ?_, fun y hy => ?_, fun i hi => ?_, ⟨?_, ?_, ?_⟩, fun h hh => ?_, ?_⟩
            · refine g_seg_app (d1 ++ d2) [20000 + x] ce ?_ ?_
              · refine g_seg_cong (a := code3) _ _ (fun i h1 h2 => ?_) (g_seg_app d1 d2 ce (g_seg_cong (a := code1) _ _ (fun i h1 h2 => hs4 i h2) hs1) hs3)
                rw [List.length_append] at h2
                exact pk_un (by omega)
              · refine ⟨?_, trivial⟩
                rw [List.length_append, ← Nat.add_assoc]
                exact pk_us
            · rw [pk_un (by omega), hs4 i (by omega)]
              exact hs2 i hi
            · refine m_sg_app (e1 ++ m_ops p1) e2 top ?_ ?_
              · refine m_sg_app e1 (m_ops p1) top ?_ ?_
                · exact m_sg_cong (a := rc1) _ _ (fun i h1 h2 => by rw [hm4 i (by omega), hfr i (by omega)]) hm1
                · exact m_sg_cong (a := rc') _ _ (fun i h1 h2 => by rw [m_ln_ops] at h2; exact hm4 i (by omega)) hsg
              · rw [m_ln_app, m_ln_ops, ← Nat.add_assoc]
                exact hm3
            · rw [hm4 i (by omega), hfr i (by omega)]
              exact hm2 i hi
            · rw [List.append_assoc]
              exact hst3
            · rw [hd1, hd3]
              unfold m_ops
              rw [List.map_append]
              simp only [List.append_assoc]
              rfl
            · rcases List.mem_append.mp hy with z | z
              · obtain ⟨z1, z2⟩ := hp3 y z
                exact ⟨z1, by omega⟩
              · have e : y = x := by simpa using z
                subst e
                exact ⟨by omega, hxs⟩
            · rw [hts3 i (by omega), pk_un (by omega)]; exact hts1 i (by omega)
            · rw [List.length_append, List.length_append]
              omega
            · rw [List.length_append, List.length_append, List.length_singleton]
              omega
            · omega
            · exact x_vc_bin (hvc1 h (by omega)) (hvc3 (h + 1) (by omega)) (by omega) (by omega)
            · exact g_us_app (g_us_app hus1 hus3) (g_us_op x)
          have elen : ce + d1.length + d2.length + 1 = ce + (d1 ++ d2 ++ [20000 + x]).length := by
            rw [List.length_append, List.length_append, List.length_singleton]
            omega
          have etop : top + m_ln e1 + p1.length + m_ln e2 = top + m_ln (e1 ++ m_ops p1 ++ e2) := by
            rw [m_ln_app, m_ln_app, m_ln_ops]
            omega
          have estk : p2.length + (w.length + 1) = (p2 ++ [x]).length + w.length := by
            rw [List.length_append, List.length_singleton]
            omega
          rw [elen, etop, estk, hcs]
          left
          refine ⟨a3, _, _, _, va3, si3, _, rc3, ws3, ts3, k3, rfl, rfl, hGS, ⟨fun _ => hNT3.1 (by decide), fun _ => hNT3.2.1 (by decide), fun _ => Or.inl ?_, fun z => absurd z (by decide), fun z => absurd z (by decide)⟩⟩
          rw [hts3 (ar + 1) (by omega), pk_us]
          decide
        · right
          have hfne : nI f ≠ 0 := fun z => by have := (nI_eq (a := f) (b := 0) (by omega) (by omega)).mp z; omega
          obtain ⟨ce3, code4, hce3, ee⟩ := k_emit' hce2 (g_cs (20000 + x)) code3
          rw [← hcs] at ee
          rw [oc, g_b9_s, ee, g_b2_s]
          exact ⟨f, s, hf1, hf2, ⟨_, _, _, _, ce3, _, hce3, rfl⟩, hfin⟩
    rw [sA, gs_b1_s]
    by_cases gA : t_G c n a1 60 = true
    · rw [if_pos gA, if_neg n10]
      unfold f_X2_readTest_29
      rw [sA, gs_b1_s, if_pos gA, if_neg n10]
      exact turn 3 (Or.inl rfl) gA _ (by decide)
    · rw [if_neg gA, if_pos rfl, sB, gs_b1_s]
      by_cases gB : t_G c n a1 61 = true
      · rw [if_pos gB, if_neg n10]
        unfold f_X2_readTest_29
        rw [sA, gs_b1_s, if_neg gA, if_pos rfl]
        exact turn 4 (Or.inr rfl) gB _ (by decide)
      · rw [if_neg gB, if_pos rfl]
        left
        exact ⟨a1, d1, e1, p1, va1, si1, code1, rc1, ws1, ts1, k1' + 1, rfl, rfl, ⟨⟨hv1, ha1⟩, ⟨hs1, hs2⟩, ⟨hm1, hm2⟩, hst1, hd1, fun y hy => ⟨(hp1 y hy).1, by have := (hp1 y hy).2; omega⟩, fun i hi => hts1 i (by omega), ⟨hq1, hq2, hq3⟩, fun h hh => hvc1 h (by omega), hus1⟩, ⟨fun _ => hNT.1 (by decide), fun _ => hNT.2.1 (by decide), fun _ => Or.inr ⟨Bool.eq_false_iff.mpr gA, Bool.eq_false_iff.mpr gB⟩, fun z => absurd z (by decide), fun z => absurd z (by decide)⟩⟩
  · right
    rw [oc, g_b9_s, k_sign5, gs_b1_s, if_pos rfl, k_sign5, gs_b1_s, if_pos rfl]
    exact ⟨f, s, hf1, hf2, ⟨_, _, _, _, ce1, _, hce1, rfl⟩, hfin⟩
/-- nots go behind -/
theorem k_nots (ats ki st va si fa p : Int32) : ∀ (d g i ce : Nat) (code : Nat → Int32), d < g → i + d < 20 → ce + d ≤ 700 → ∃ (code' : Nat → Int32), gs_it (fun _ _ _ => none) (f_X2_readNot_61 F (nI (i + d)) ats ki st va si fa p) g (nI i) (nI ce) code = some (ats, ki, st, va, si, fa, p, nI (ce + d), code') ∧ g_seg code' ce (List.replicate d 20002) ∧ ∀ j, j < ce → code' j = code j
  | 0, g, i, ce, code, hg, hi, hc => by
    obtain ⟨g, rfl⟩ : ∃ q, g = q + 1 := ⟨g - 1, by omega⟩
    refine ⟨code, ?_, trivial, fun _ _ => rfl⟩
    rw [gs_it_s]
    unfold f_X2_readNot_61
    rw [if_pos (nI_le (by omega) (by omega))]
    rfl
  | d + 1, g, i, ce, code, hg, hi, hc => by
    obtain ⟨g, rfl⟩ : ∃ q, g = q + 1 := ⟨g - 1, by omega⟩
    obtain ⟨code2, e2, s2, f2⟩ := k_nots ats ki st va si fa p d g (i + 1) (ce + 1) (upd code ce (-22)) (by omega) (by omega) (by omega)
    refine ⟨code2, ?_, ⟨?_, s2⟩, fun j hj => ?_⟩
    · rw [gs_it_s]
      unfold f_X2_readNot_61
      rw [if_neg (nI_ge (by omega) (by omega)), k_emit (by omega), g_b2_s, nI_1]
      rw [show i + 1 + d = i + (d + 1) by omega, show ce + 1 + d = ce + (d + 1) by omega] at e2
      exact e2
    · rw [f2 ce (by omega), pk_us]
      decide
    · rw [f2 j (by omega), pk_un (by omega)]
theorem k_nots' (ats ki st va si fa p : Int32) : ∀ (d g i ce : Nat) (code : Nat → Int32), d < g → i + d < 20 → ce ≤ 700 → ∃ (ce' : Nat) (code' : Nat → Int32), ce' ≤ 700 ∧ gs_it (fun _ _ _ => none) (f_X2_readNot_61 F (nI (i + d)) ats ki st va si fa p) g (nI i) (nI ce) code = some (ats, ki, st, va, si, fa, p, nI ce', code')
  | 0, g, i, ce, code, hg, hi, hc => by
    obtain ⟨g, rfl⟩ : ∃ q, g = q + 1 := ⟨g - 1, by omega⟩
    refine ⟨ce, code, hc, ?_⟩
    rw [gs_it_s]
    unfold f_X2_readNot_61
    rw [if_pos (nI_le (by omega) (by omega))]
  | d + 1, g, i, ce, code, hg, hi, hc => by
    obtain ⟨g, rfl⟩ : ∃ q, g = q + 1 := ⟨g - 1, by omega⟩
    obtain ⟨ce1, code1, h1, e1⟩ := k_emit' hc (-22) code
    obtain ⟨ce2, code2, h2, e2⟩ := k_nots' ats ki st va si fa p d g (i + 1) ce1 code1 (by omega) (by omega) h1
    refine ⟨ce2, code2, h2, ?_⟩
    rw [gs_it_s]
    unfold f_X2_readNot_61
    rw [if_neg (nI_ge (by omega) (by omega)), e1, g_b2_s, nI_1]
    rw [show i + 1 + d = i + (d + 1) by omega] at e2
    exact e2
theorem x_vc_nots {d : List Nat} {h : Nat} (h1 : x_vc d h) : ∀ j, x_vc (d ++ List.replicate j 20002) h
  | 0 => by rw [List.replicate_zero, List.append_nil]; exact h1
  | j + 1 => by
    rw [List.replicate_succ', ← List.append_assoc]
    exact x_vc_not (x_vc_nots h1 j)
theorem m_ops_rep : ∀ j, m_ops (List.replicate j 2) = List.replicate j 20002
  | 0 => rfl
  | j + 1 => by
    have := m_ops_rep j
    unfold m_ops at this ⊢
    rw [List.replicate_succ, List.replicate_succ, List.map_cons, this]
theorem x_notL (hn : n ≤ 700) (ho : o < 2) (har : ar ≤ 5) (hC : ∀ j, j < n → c j < 256 ∧ tC j = sb_b (c j)) (hM : ∀ j, j < n → c j < 256 ∧ tM j = nI (c j)) (HF : x_HF c n o ar tC tM F) {a ce top k m : Nat} {w : List Nat} {code rc ts : Nat → Int32} (hbk : m_bk 3 w) (hw : ∀ x, x ∈ w → x ≤ 9) (ha : a ≤ n) (hce : ce ≤ t_S c n a) (htop : top + w.length + 1 ≤ 2 * t_S c n a) (hwl : w.length ≤ t_S c n a) (hk : 703 ≤ k + t_S c n a) (hm : 703 ≤ m + t_S c n a) (hts0 : ts (ar + 1) = 0) :
    ∀ (r j i g a1 : Nat) (va1 si1 : Int32) (ws1 : Nat → Int32), j + r = 6 → r + 2 < i → r + 2 < g → a1 ≤ n → t_Cv c n a1 va1 si1 → t_S c n a + j ≤ t_S c n a1 → m_st ws1 (List.replicate j 2 ++ w) →
      x_S c n o tM 3 ar (5 * ar + 2) (ar + 1) a ce top k w code rc ts (gs_it (fun _ _ _ _ _ _ => none) (f_X2_readNot_2 F (nI ar) (nI o) (nI n) 0 (-1) tC (nI ce) code (fun (x2' : Int32) (v_t_tokens_at' : Int32) (v_t_tokens_kind' : Int32) (v_t_tokens_start' : Int32) (v_t_tokens_value' : Int32) (v_t_tokens_sign' : Int32) => f_X2_readNot_33 F (nI ar) x2' (nI o) (nI n) v_t_tokens_at' v_t_tokens_kind' v_t_tokens_start' v_t_tokens_value' v_t_tokens_sign' 0 (-1) tC (nI ce) code)) g (nI j) (nI (t_E c n a1)) (nI (t_K c n a1)) (nI (t_S c n a1)) va1 si1) (x_nl c n (nI (v_f0 o)) (nI (v_l0 o)) tM k m i j a1 top (j + w.length) (ar + 1) rc ws1 ts) := by
  have hSn := (t_S_le c ha).2
  have h2l : ∀ j : Nat, (List.replicate j 2 ++ w).length = j + w.length := fun j => by rw [List.length_append, List.length_replicate]
  have hwj : ∀ j : Nat, ∀ x, x ∈ List.replicate j 2 ++ w → x ≤ 9 := fun j x hx => by
    rcases List.mem_append.mp hx with z | z
    · have := List.eq_of_mem_replicate z
      omega
    · exact hw x z
  -- no not: a test, then the nots go behind
  have last : ∀ (j a1 i : Nat) (va1 si1 : Int32) (ws1 : Nat → Int32), j ≤ 6 → 0 < i → a1 ≤ n → t_Cv c n a1 va1 si1 → t_S c n a + j ≤ t_S c n a1 → m_st ws1 (List.replicate j 2 ++ w) → t_W c n a1 ≠ 17 → x_S c n o tM 3 ar (5 * ar + 2) (ar + 1) a ce top k w code rc ts (f_X2_readNot_33 F (nI ar) (nI j) (nI o) (nI n) (nI (t_E c n a1)) (nI (t_K c n a1)) (nI (t_S c n a1)) va1 si1 0 (-1) tC (nI ce) code) (x_nl c n (nI (v_f0 o)) (nI (v_l0 o)) tM k m i j a1 top (j + w.length) (ar + 1) rc ws1 ts) := by
    intro j a1 i va1 si1 ws1 hj hi ha1 hv1 hS hst1 hW
    obtain ⟨i, rfl⟩ : ∃ q, i = q + 1 := ⟨i - 1, by omega⟩
    have hSn1 := (t_S_le c ha1).2
    unfold f_X2_readNot_33
    rw [t_isWord hn hC ha1 (i := 2) (by decide), show t_ix 2 = 17 from rfl, if_neg hW, gs_b1_s, if_pos rfl, x_nl_end ha1 hn hW]
    have hbk4 : m_bk 4 (List.replicate j 2 ++ w) := by
      cases j with
      | zero => exact m_bk_mono (by decide) hbk
      | succ j => exact Or.inr (by decide)
    have H := x_test hn ho har hC hM HF (code := code) (rc := rc) (ts := ts) (mn := 1) (k := k) (m := m) (top := top) (ce := ce) (w := List.replicate j 2 ++ w) (ws := ws1) ⟨ha1, hv1, by omega, by rw [h2l]; omega, by rw [h2l]; omega, by omega, by omega, hwj j, hst1⟩ hbk4 hts0
    rw [h2l] at H
    rcases H with ⟨a3, d, e, p, va3, si3, code3, rc3, ws3, ts3, k3, oc, om, ⟨⟨hv3, ha3⟩, ⟨hs3, hs4⟩, ⟨hm3, hm4⟩, hst3, hd3, hp3, hts3, ⟨hl1, hl2, hl3⟩, hvc3, hus3⟩, hNT3⟩ | ⟨f, s, hf1, hf2, ⟨at2, st2, va3, si3, ce2, code3, hce2, oc⟩, hfin⟩
    · have hSn3 := (t_S_le c ha3).2
      obtain ⟨code4, en, sn, fn⟩ := k_nots (F := F) (nI (t_E c n a3)) (nI (t_K c n a3)) (nI (t_S c n a3)) va3 si3 0 (-1) j gs_fuel 0 (ce + d.length) code3 (by rw [gs_fuel_eq]; omega) (by omega) (by omega)
      rw [Nat.zero_add, nI_0] at en
      rw [oc, g_b9_s, en, om]
      left
      refine ⟨a3, d ++ List.replicate j 20002, e, p ++ List.replicate j 2, va3, si3, code4, rc3, ws3, ts3, k3, ?_, ?_, ⟨⟨hv3, ha3⟩, ⟨?_, fun i hi => ?_⟩, ⟨hm3, hm4⟩, ?_, ?_, fun y hy => ?_, hts3, ⟨?_, ?_, by omega⟩, fun h hh => x_vc_nots (hvc3 h hh) j, ?_⟩, ⟨fun _ => hNT3.1 (by decide), fun _ => hNT3.2.1 (by decide), fun _ => hNT3.2.2.1 (by decide), fun z => absurd z (by decide), fun z => absurd z (by decide)⟩⟩
      · rw [List.length_append, List.length_replicate, Nat.add_assoc]
      · rw [h2l, List.length_append, List.length_replicate, Nat.add_assoc]
      · exact g_seg_app d _ ce (g_seg_cong (a := code3) _ _ (fun i h1 h2 => fn i h2) hs3) sn
      · rw [fn i (by omega)]
        exact hs4 i hi
      · rw [List.append_assoc]
        exact hst3
      · rw [hd3, List.append_assoc]
        unfold m_ops
        rw [List.map_append]
        exact congrArg (fun z => e ++ (m_ops p ++ z)) (m_ops_rep j).symm
      · rcases List.mem_append.mp hy with z | z
        · obtain ⟨z1, z2⟩ := hp3 y z
          exact ⟨z1, by omega⟩
        · have := List.eq_of_mem_replicate z
          subst this
          exact ⟨by decide, by decide⟩
      · rw [List.length_append]
        omega
      · rw [List.length_append, List.length_replicate]
        omega
      · refine g_us_app hus3 (fun t ht h1 h2 => ?_)
        have := List.eq_of_mem_replicate ht
        omega
    · right
      obtain ⟨ce3, code4, hce3, en⟩ := k_nots' (F := F) at2 5 st2 va3 si3 (nI f) (nI s) j gs_fuel 0 ce2 code3 (by rw [gs_fuel_eq]; omega) (by omega) hce2
      rw [Nat.zero_add, nI_0] at en
      rw [oc, g_b9_s, en]
      exact ⟨f, s, hf1, hf2, ⟨_, _, _, _, ce3, _, hce3, rfl⟩, hfin⟩
  intro r
  induction r with
  | zero =>
    intro j i g a1 va1 si1 ws1 hj hi hg ha1 hv1 hS hst1
    have e6 : j = 6 := by omega
    subst e6
    obtain ⟨g, rfl⟩ : ∃ q, g = q + 1 := ⟨g - 1, by omega⟩
    have hSn1 := (t_S_le c ha1).2
    rw [gs_it_s]
    unfold f_X2_readNot_2
    rw [if_pos (show (6 : Int32) ≤ nI 6 from by decide)]
    dsimp only
    by_cases hW : t_W c n a1 = 17
    · right
      obtain ⟨i, rfl⟩ : ∃ q, i = q + 2 := ⟨i - 2, by omega⟩
      obtain ⟨k, rfl⟩ : ∃ q, k = q + 1 := ⟨k - 1, by omega⟩
      obtain ⟨m, rfl⟩ : ∃ q, m = q + 1 := ⟨m - 1, by omega⟩
      unfold f_X2_readNot_33
      rw [t_isWord hn hC ha1 (i := 2) (by decide), show t_ix 2 = 17 from rfl, if_pos hW, gs_b1_s, if_neg n10, k_fail0, g_b3_s]
      have hb := x_nl_much (fv := nI (v_f0 o)) (lv := nI (v_l0 o)) (tM := tM) (k := k) (m := m) (i := i) (dp := ar + 1) (rc := rc) (ts := ts) (top := top) hn ha1 hW (hwj 6) hst1 (by rw [h2l]; omega) (by rw [h2l]; omega)
      rw [h2l] at hb
      exact ⟨2, t_S c n a1, by decide, by decide, ⟨_, _, _, _, ce, _, by omega, rfl⟩, hb⟩
    · exact last 6 a1 i va1 si1 ws1 (Nat.le_refl _) (by omega) ha1 hv1 hS hst1 hW
  | succ r ih =>
    intro j i g a1 va1 si1 ws1 hj hi hg ha1 hv1 hS hst1
    obtain ⟨g, rfl⟩ : ∃ q, g = q + 1 := ⟨g - 1, by omega⟩
    obtain ⟨hE1, hE2, hE3⟩ := t_E_le c ha1
    have hSn1 := (t_S_le c ha1).2
    obtain ⟨hS3, hS4⟩ := t_S_le c hE2
    have hKl := t_K_le c n a1
    rw [gs_it_s]
    unfold f_X2_readNot_2
    rw [if_neg (show ¬ (6 : Int32) ≤ nI j from nI_ge (b := 6) (by omega) (by omega)), t_isWord hn hC ha1 (i := 2) (by decide), show t_ix 2 = 17 from rfl, gs_b1_s]
    by_cases hW : t_W c n a1 = 17
    · obtain ⟨i, rfl⟩ : ∃ q, i = q + 1 := ⟨i - 1, by omega⟩
      have hk1 := t_W_K (c := c) (n := n) (a := a1) (by omega)
      have hlt := hE3 (by omega)
      have hk5 : nI (t_K c n a1) ≠ 5 := fun z => by have := (nI_eq (a := t_K c n a1) (b := 5) (by omega) (by omega)).mp z; omega
      obtain ⟨va2, si2, en, hv2⟩ := t_next hn hC hk5 (nI (t_S c n a1)) va1 si1 hE2
      rw [if_pos hW, if_neg n10, en, g_b5_s, nI_1, x_nl_not hn hM ha1 hW (by omega) (by omega), show j + w.length + 1 = (j + 1) + w.length by omega]
      have hst2 : m_st (upd ws1 (j + w.length) 3) (List.replicate (j + 1) 2 ++ w) := by
        rw [List.replicate_succ, List.cons_append]
        refine ⟨?_, m_st_upd hst1 (by rw [h2l]; exact Nat.le_refl _)⟩
        rw [h2l, pk_us]
        decide
      exact ih (j + 1) i g (t_E c n a1) va2 si2 (upd ws1 (j + w.length) 3) (by omega) (by omega) (by omega) hE2 hv2 (by omega) hst2
    · rw [if_neg hW, if_pos rfl]
      dsimp only
      exact last j a1 i va1 si1 ws1 (by omega) (by omega) ha1 hv1 hS hst1 hW
theorem x_not (hn : n ≤ 700) (ho : o < 2) (har : ar ≤ 5) (hC : ∀ j, j < n → c j < 256 ∧ tC j = sb_b (c j)) (hM : ∀ j, j < n → c j < 256 ∧ tM j = nI (c j)) (HF : x_HF c n o ar tC tM F) {a ce top k m : Nat} {va si : Int32} {w : List Nat} {code rc ws ts : Nat → Int32} (hp : x_P c n a ce top k m va si w ws) (hbk : m_bk 3 w) (hts0 : ts (ar + 1) = 0) :
    x_S c n o tM 3 ar (5 * ar + 2) (ar + 1) a ce top k w code rc ts (f_X2_readNot F (nI ar) (nI o) (nI n) (nI (t_E c n a)) (nI (t_K c n a)) (nI (t_S c n a)) va si 0 (-1) tC (nI ce) code) (x_op c n (nI (v_f0 o)) (nI (v_l0 o)) tM k (m + 1) 1 a top w.length (ar + 1) rc ws ts) := by
  obtain ⟨ha, hv, hce, htop, hwl, hk, hm, hw, hst⟩ := hp
  unfold f_X2_readNot
  rw [x_op_1]
  have H := x_notL hn ho har hC hM HF (code := code) (rc := rc) (ts := ts) (k := k) (m := m) hbk hw ha hce htop hwl hk hm hts0 6 0 gs_fuel gs_fuel a va si ws rfl (by rw [gs_fuel_eq]; omega) (by rw [gs_fuel_eq]; omega) ha hv (Nat.le_refl _) hst
  rw [Nat.zero_add, nI_0] at H
  exact H
end TN
