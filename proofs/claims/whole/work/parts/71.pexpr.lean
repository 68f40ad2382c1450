/-! ===== pure rows: expressions within expressions; a whole one ===== -/
section EX
variable {c : Nat → Nat} {n o : Nat} {tC tM : Nat → Int32}
theorem x_deepC (hn : n ≤ 700) (hC : ∀ j, j < n → c j < 256 ∧ tC j = sb_b (c j)) (F : Int32 → Int32 → Int32 → Int32 → Int32 → Int32 → Int32 → Int32 → Int32 → Int32 → (Nat → Int32) → Int32 → (Nat → Int32) → Option (Int32 × Int32 × Int32 × Int32 × Int32 × Int32 × Int32 × Int32 × (Nat → Int32))) {a ce : Nat} {va si : Int32} (code : Nat → Int32) (ha : a ≤ n) (hv : t_Cv c n a va si) (hce : ce ≤ 700) : x_cf (if t_K c n a = 2 ∨ t_K c n a = 1 ∨ t_G c n a 40 = true then 2 else 1) (t_S c n a) (f_X2_readExpr F (nI 6) (nI o) (nI n) (nI (t_E c n a)) (nI (t_K c n a)) (nI (t_S c n a)) va si 0 (-1) tC (nI ce) code) := by
  have h256 : ∀ j, j < n → c j < 256 := fun j hj => (hC j hj).1
  have hKl := t_K_le c n a
  have s40 : f_X8_isSign 40 (nI (t_K c n a)) si = some (if t_G c n a 40 = true then 1 else 0) := t_signC h256 hv (w := 40) (by decide)
  unfold f_X2_readExpr f_X8_isNumber f_X2_readExpr_58
  rw [if_neg (show ¬ nI 6 < 6 from by decide), k_fail0, k_fail0, g_b3_s, g_b3_s]
  by_cases c2 : t_K c n a = 2
  · rw [if_pos (Or.inl c2), if_pos (show nI (t_K c n a) = 2 from by rw [c2]; rfl), gs_b1_s, if_neg n10, if_neg n10]
    exact ⟨_, _, _, _, ce, _, hce, rfl⟩
  · rw [if_neg (n_ne 2 2 rfl (by omega) (by decide) c2), gs_b1_s, if_pos (show (0 : Int32) = 0 from rfl)]
    by_cases c1 : t_K c n a = 1
    · rw [if_pos (Or.inr (Or.inl c1)), if_pos (show nI (t_K c n a) = 1 from by rw [c1]; rfl), if_neg n10]
      exact ⟨_, _, _, _, ce, _, hce, rfl⟩
    · rw [if_neg (n_ne 1 1 rfl (by omega) (by decide) c1), s40, gs_b1_s]
      by_cases c3 : t_G c n a 40 = true
      · rw [if_pos (Or.inr (Or.inr c3)), if_pos c3, if_neg n10, if_neg n10]
        exact ⟨_, _, _, _, ce, _, hce, rfl⟩
      · rw [if_neg (show ¬ (t_K c n a = 2 ∨ t_K c n a = 1 ∨ t_G c n a 40 = true) from by simp [c1, c2, c3]), if_neg c3, if_pos (show (0 : Int32) = 0 from rfl), if_pos (show (0 : Int32) = 0 from rfl)]
        exact ⟨_, _, _, _, ce, _, hce, rfl⟩
theorem x_within (hn : n ≤ 700) (ho : o < 2) (hC : ∀ j, j < n → c j < 256 ∧ tC j = sb_b (c j)) (hM : ∀ j, j < n → c j < 256 ∧ tM j = nI (c j)) : ∀ (r ar e : Nat), ar + r = 5 → 6 ≤ e + ar → x_HF c n o ar tC tM (gs_it (fun _ _ _ _ _ _ _ _ _ _ _ _ _ => none) f_X2_readExpr e)
  | 0, ar, e, har, he => by
    obtain ⟨e, rfl⟩ : ∃ q, e = q + 1 := ⟨e - 1, by omega⟩
    refine ⟨fun z => by omega, fun _ a ce va si code ha hv hce => ?_⟩
    rw [gs_it_s]
    exact x_deepC hn hC _ code ha hv hce
  | r + 1, ar, e, har, he => by
    obtain ⟨e, rfl⟩ : ∃ q, e = q + 1 := ⟨e - 1, by omega⟩
    have HF := x_within hn ho hC hM r (ar + 1) e (by omega) (by omega)
    refine ⟨fun _ a ce top k m va si w code rc ws ts hp hbk hts hm => ?_, fun z => by omega⟩
    have hSn := (t_S_le c hp.1).2
    obtain ⟨m, rfl⟩ : ∃ q, m = q + 1 := ⟨m - 1, by omega⟩
    obtain ⟨ha, hv, hce, htop, hwl, hk, hm', hw, hst⟩ := hp
    rw [gs_it_s]
    have H := x_or hn ho (ar := ar + 1) (by omega) hC hM HF (code := code) (rc := rc) (ts := ts) (m := m) (k := k) (top := top) (ce := ce) (w := w) (ws := ws) ⟨ha, hv, hce, htop, hwl, hk, by omega, hw, hst⟩ hbk hts
    exact H
/-- class and model read a whole expression -/
theorem x_whole (hn : n ≤ 700) (ho : o < 2) (hC : ∀ j, j < n → c j < 256 ∧ tC j = sb_b (c j)) (hM : ∀ j, j < n → c j < 256 ∧ tM j = nI (c j)) {a ce top : Nat} {va si : Int32} (code rc ws ts : Nat → Int32) (fv0 lv0 wt0 dp0 : Int32) (ha : a ≤ n) (hv : t_Cv c n a va si) (hce : ce ≤ t_S c n a) (htop : top + 1 ≤ 2 * t_S c n a) (hS3 : 4 ≤ t_S c n a) :
    (∃ (a' : Nat) (d : List Nat) (va' si' : Int32) (code' rc' ws' ts' : Nat → Int32), f_X2_readExpr_r 0 (nI o) (nI n) (nI (t_E c n a)) (nI (t_K c n a)) (nI (t_S c n a)) va si 0 (-1) tC (nI ce) code = some (nI (t_E c n a'), nI (t_K c n a'), nI (t_S c n a'), va', si', 0, -1, nI (ce + d.length), code') ∧ f_X12_expression (nI (v_f0 o)) (nI (v_l0 o)) 0 (-1) (nI n) (nI (t_E c n a)) (nI (t_K c n a)) (nI (t_S c n a)) (nI (t_E c n a - t_S c n a)) (t_mv c n a) (t_ms c n a) (t_mw c n a) (nI top) fv0 lv0 wt0 dp0 tM rc ws ts = some (0, -1, nI (t_E c n a'), nI (t_K c n a'), nI (t_S c n a'), nI (t_E c n a' - t_S c n a'), t_mv c n a', t_ms c n a', t_mw c n a', nI (top + m_ln d + 1), nI (v_f0 o), nI (v_l0 o), 0, 1, rc', ws', ts') ∧ t_Cv c n a' va' si' ∧ a' ≤ n ∧ (g_seg code' ce d ∧ ∀ j, j < ce → code' j = code j) ∧ (m_seg rc' top d ∧ ∀ j, j < top → rc' j = rc j) ∧ t_S c n a + d.length ≤ t_S c n a' ∧ g_ok d 0 ∧ g_us (v_V o) d) ∨
    (∃ f s, 0 < f ∧ f < 100 ∧ x_cf f s (f_X2_readExpr_r 0 (nI o) (nI n) (nI (t_E c n a)) (nI (t_K c n a)) (nI (t_S c n a)) va si 0 (-1) tC (nI ce) code) ∧ x_fin f s (f_X12_expression (nI (v_f0 o)) (nI (v_l0 o)) 0 (-1) (nI n) (nI (t_E c n a)) (nI (t_K c n a)) (nI (t_S c n a)) (nI (t_E c n a - t_S c n a)) (t_mv c n a) (t_ms c n a) (t_mw c n a) (nI top) fv0 lv0 wt0 dp0 tM rc ws ts)) := by
  have em : f_X12_expression (nI (v_f0 o)) (nI (v_l0 o)) 0 (-1) (nI n) (nI (t_E c n a)) (nI (t_K c n a)) (nI (t_S c n a)) (nI (t_E c n a - t_S c n a)) (t_mv c n a) (t_ms c n a) (t_mw c n a) (nI top) fv0 lv0 wt0 dp0 tM rc ws ts = x_op c n (nI (v_f0 o)) (nI (v_l0 o)) tM gs_fuel gs_fuel 1 a top 0 1 rc ws (upd ts 1 0) := by
    unfold f_X12_expression
    rw [x_good0, gs_b1_s, if_neg n10]
    unfold f_X12_deeper
    rw [if_neg (by decide), gs_gd_t (by decide), g_b4_s]
    rfl
  have HF := x_within hn ho hC hM 5 0 9 rfl (by decide)
  have hSn := (t_S_le c ha).2
  have H := x_or hn ho (ar := 0) (by omega) hC hM HF (code := code) (rc := rc) (ts := upd ts 1 0) (m := 19999) (k := 20000) (top := top) (ce := ce) (w := []) (ws := ws) ⟨ha, hv, hce, by rw [List.length_nil]; omega, Nat.zero_le _, by omega, by omega, fun x hx => (by cases hx), trivial⟩ trivial pk_us
  rw [em]
  have ec : f_X2_readExpr_r 0 (nI o) (nI n) (nI (t_E c n a)) (nI (t_K c n a)) (nI (t_S c n a)) va si 0 (-1) tC (nI ce) code = f_X2_readExpr (gs_it (fun _ _ _ _ _ _ _ _ _ _ _ _ _ => none) f_X2_readExpr 9) (nI 0) (nI o) (nI n) (nI (t_E c n a)) (nI (t_K c n a)) (nI (t_S c n a)) va si 0 (-1) tC (nI ce) code := rfl
  rw [ec]
  have eo : x_op c n (nI (v_f0 o)) (nI (v_l0 o)) tM gs_fuel gs_fuel 1 a top 0 1 rc ws (upd ts 1 0) = x_op c n (nI (v_f0 o)) (nI (v_l0 o)) tM 20000 (19999 + 1) 1 a top ([] : List Nat).length (0 + 1) rc ws (upd ts 1 0) := rfl
  rw [eo]
  rcases H with ⟨a1, d, e, p, va1, si1, code1, rc1, ws1, ts1, k1, oc, om, ⟨⟨hv1, ha1⟩, ⟨hs1, hs2⟩, ⟨hm1, hm2⟩, hst1, hd, hp1, hts1, ⟨hq1, hq2, hq3⟩, hvc, hus⟩, hNT⟩ | H
  · left
    have hSn1 := (t_S_le c ha1).2
    have hml : m_ln e + p.length ≤ 2 * d.length := by
      have := m_ln_le d
      rw [hd, m_ln_app, m_ln_ops] at this
      rw [← hd] at this
      exact this
    have hpl : p.length ≤ d.length := by
      rw [hd, List.length_append, m_ops_len]
      omega
    rw [List.append_nil] at hst1
    rw [List.length_nil, Nat.add_zero] at om
    obtain ⟨k1, rfl⟩ : ∃ q, k1 = q + 2 := ⟨k1 - 2, by omega⟩
    have h9 : 9 ∉ p := fun z => by
      have := (hp1 9 z).1
      omega
    have est := x_at_stop (fv := nI (v_f0 o)) (lv := nI (v_l0 o)) (k := k1) (dp := 0 + 1) (ts := ts1) (rc := rc1) (top := top + m_ln e) hn hM ha1 (by omega) (hNT.2.2.2.1 (by omega)) (hNT.2.2.2.2 (by omega)) (hNT.2.2.1 (by omega)) (hNT.2.1 (by omega)).1 (hNT.2.1 (by omega)).2 (hNT.1 (by omega)).1 (hNT.1 (by omega)).2 (Or.inr h9) (fun x hx => by have := (hp1 x hx).1; omega) hst1 (by omega)
    obtain ⟨rc2, ed, hsg, hfr⟩ := m_drops (ws := ws1) (w := []) (k := 0) (by omega) trivial (fun x hx => (by cases hx)) p (top + m_ln e) rc1 (fun x hx => ⟨(hp1 x hx).1, Nat.zero_le _⟩) (by rw [List.append_nil]; exact hst1) (by omega) (by rw [List.length_nil]; omega)
    rw [List.length_nil, Nat.add_zero] at ed
    have emd : m_ln d = m_ln e + p.length := by rw [hd, m_ln_app, m_ln_ops]
    refine ⟨a1, d, va1, si1, code1, upd rc2 (top + m_ln d) 0, ws1, ts1, oc, ?_, hv1, ha1, ⟨hs1, hs2⟩, ⟨?_, fun j hj => ?_⟩, hq2, ?_, hus⟩
    · rw [List.length_nil, om, Nat.add_zero p.length, est]
      unfold f_X12_expression_340
      rw [x_good0, gs_b1_s, if_neg n10, if_pos (show nI (0 + 1) ≤ 1 from by decide)]
      unfold f_X12_expression_360
      rw [show f_X12_drops 0 (nI (top + m_ln e)) (nI p.length) rc1 ws1 = _ from ed, g_b3_s, m_puts (by omega), g_b2_s, emd, ← Nat.add_assoc top (m_ln e) p.length]
      rfl
    · refine m_sg_seg d top (m_sg_cong (a := rc2) d top (fun j h1 h2 => pk_un (by omega)) ?_) pk_us
      rw [hd]
      exact m_sg_app e (m_ops p) top (m_sg_cong (a := rc1) e top (fun j h1 h2 => hfr j h2) hm1) hsg
    · rw [pk_un (by omega), hfr j (by omega)]
      exact hm2 j hj
    · have := hvc 0 (by omega) [] rfl
      rw [List.append_nil] at this
      exact this
  · right
    exact H
end EX
