/-! ===== pure rows: class and model read an expression alike ===== -/
def x_cf (f s : Nat) (oc : Option (Int32 × Int32 × Int32 × Int32 × Int32 × Int32 × Int32 × Int32 × (Nat → Int32))) : Prop := ∃ (ats st va si : Int32) (ce : Nat) (code : Nat → Int32), ce ≤ 700 ∧ oc = some (ats, 5, st, va, si, nI f, nI s, nI ce, code)
def x_vc (d : List Nat) (h : Nat) : Prop := ∀ t, g_ok t (h + 1) → g_ok (d ++ t) h
/-- the token is no operator of such a strength or a greater one -/
def x_NT (c : Nat → Nat) (n l ar a : Nat) (ts : Nat → Int32) : Prop := (l ≤ 6 → t_G c n a 42 = false ∧ t_G c n a 47 = false) ∧ (l ≤ 5 → t_G c n a 43 = false ∧ t_G c n a 45 = false) ∧ (l ≤ 4 → ts (ar + 1) ≠ 0 ∨ (t_G c n a 60 = false ∧ t_G c n a 61 = false)) ∧ (l ≤ 2 → t_W c n a ≠ 15) ∧ (l ≤ 1 → t_W c n a ≠ 16)
def x_P (c : Nat → Nat) (n a ce top k m : Nat) (va si : Int32) (w : List Nat) (ws : Nat → Int32) : Prop := a ≤ n ∧ t_Cv c n a va si ∧ ce ≤ t_S c n a ∧ top + w.length + 1 ≤ 2 * t_S c n a ∧ w.length ≤ t_S c n a ∧ 703 ≤ k + t_S c n a ∧ 703 ≤ m + t_S c n a ∧ (∀ x, x ∈ w → x ≤ 9) ∧ m_st ws w
def x_GS (c : Nat → Nat) (n o l hb tl a ce top k : Nat) (w : List Nat) (code rc ts : Nat → Int32) (a' : Nat) (d e p : List Nat) (va si : Int32) (code' rc' ws' ts' : Nat → Int32) (k' : Nat) : Prop :=
  (t_Cv c n a' va si ∧ a' ≤ n) ∧ (g_seg code' ce d ∧ ∀ j, j < ce → code' j = code j) ∧ (m_sg rc' top e ∧ ∀ j, j < top → rc' j = rc j) ∧ m_st ws' (p ++ w) ∧ d = e ++ m_ops p ∧ (∀ x, x ∈ p → x < 9 ∧ l ≤ m_sr x) ∧ (∀ i, i < tl → ts' i = ts i) ∧ (1 ≤ d.length ∧ t_S c n a + d.length ≤ t_S c n a' ∧ k + t_S c n a ≤ k' + t_S c n a') ∧ (∀ h, h ≤ hb → x_vc d h) ∧ g_us (v_V o) d
def x_S (c : Nat → Nat) (n o : Nat) (tM : Nat → Int32) (l ar hb tl a ce top k : Nat) (w : List Nat) (code rc ts : Nat → Int32) (oc : Option (Int32 × Int32 × Int32 × Int32 × Int32 × Int32 × Int32 × Int32 × (Nat → Int32))) (om : Option (Int32 × Int32 × Int32 × Int32 × Int32 × Int32 × Int32 × Int32 × Int64 × Int32 × Int32 × Int32 × Int32 × Int32 × (Nat → Int32) × (Nat → Int32) × (Nat → Int32))) : Prop :=
  (∃ (a' : Nat) (d e p : List Nat) (va si : Int32) (code' rc' ws' ts' : Nat → Int32) (k' : Nat), oc = some (nI (t_E c n a'), nI (t_K c n a'), nI (t_S c n a'), va, si, 0, -1, nI (ce + d.length), code') ∧ om = x_at c n (nI (v_f0 o)) (nI (v_l0 o)) tM k' a' (top + m_ln e) (p.length + w.length) (ar + 1) rc' ws' ts' ∧ x_GS c n o l hb tl a ce top k w code rc ts a' d e p va si code' rc' ws' ts' k' ∧ x_NT c n l ar a' ts') ∨
  (∃ f s, 0 < f ∧ f < 100 ∧ x_cf f s oc ∧ x_fin f s om)
theorem v_l0_lt (o : Nat) : v_l0 o < 18 ∧ v_f0 o < 18 := by
  unfold v_l0 v_f0
  constructor <;> split <;> omega
theorem g_seg_upd {code : Nat → Int32} {ce : Nat} {x : Int32} {d : List Nat} (h : g_seg code ce d) : g_seg (upd code (ce + d.length) x) ce d := g_seg_cong d ce (fun j h1 h2 => pk_un (by omega)) h
theorem x_vc_num {t h : Nat} (ht : t < 10000) (hh : h < 64) : x_vc [t] h := by
  intro r hr
  show g_ok (t :: r) h
  rw [g_ok, if_pos ht]
  exact ⟨hh, hr⟩
theorem x_vc_val {v h : Nat} (hv : v < 9) (hh : h < 64) : x_vc [10000 + v] h := by
  intro r hr
  show g_ok ((10000 + v) :: r) h
  rw [g_ok, if_neg (by omega), if_pos (by omega)]
  exact ⟨by omega, hh, hr⟩
theorem x_vc_bin {d1 d2 : List Nat} {h o : Nat} (h1 : x_vc d1 h) (h2 : x_vc d2 (h + 1)) (ho : o < 9) (ho2 : o ≠ 2) : x_vc (d1 ++ d2 ++ [20000 + o]) h := by
  intro r hr
  rw [List.append_assoc, List.append_assoc]
  refine h1 _ (h2 _ ?_)
  show g_ok ((20000 + o) :: r) (h + 1 + 1)
  rw [g_ok, if_neg (by omega), if_neg (by omega), if_neg (by omega)]
  exact ⟨by omega, by omega, hr⟩
theorem x_vc_not {d : List Nat} {h : Nat} (h1 : x_vc d h) : x_vc (d ++ [20002]) h := by
  intro r hr
  rw [List.append_assoc]
  refine h1 _ ?_
  show g_ok (20002 :: r) (h + 1)
  rw [g_ok, if_neg (by omega), if_neg (by omega), if_pos rfl]
  exact ⟨by omega, hr⟩
theorem g_us_app {V : Nat → Bool} {c d : List Nat} (h1 : g_us V c) (h2 : g_us V d) : g_us V (c ++ d) := fun t ht => by
  rcases List.mem_append.mp ht with z | z
  · exact h1 t z
  · exact h2 t z
theorem g_us_op {V : Nat → Bool} (o : Nat) : g_us V [20000 + o] := fun t ht h1 h2 => by
  have : t = 20000 + o := by simpa using ht
  omega
section LEV
variable {c : Nat → Nat} {n o ar : Nat} {tC tM : Nat → Int32} {F : Int32 → Int32 → Int32 → Int32 → Int32 → Int32 → Int32 → Int32 → Int32 → Int32 → (Nat → Int32) → Int32 → (Nat → Int32) → Option (Int32 × Int32 × Int32 × Int32 × Int32 × Int32 × Int32 × Int32 × (Nat → Int32))}
/-- what is known of an expression within -/
def x_HF (c : Nat → Nat) (n o ar : Nat) (tC tM : Nat → Int32) (F : Int32 → Int32 → Int32 → Int32 → Int32 → Int32 → Int32 → Int32 → Int32 → Int32 → (Nat → Int32) → Int32 → (Nat → Int32) → Option (Int32 × Int32 × Int32 × Int32 × Int32 × Int32 × Int32 × Int32 × (Nat → Int32))) : Prop :=
  (ar < 5 → ∀ (a ce top k m : Nat) (va si : Int32) (w : List Nat) (code rc ws ts : Nat → Int32), x_P c n a ce top k m va si w ws → m_bk 1 w → ts (ar + 2) = 0 → 704 ≤ m + t_S c n a → x_S c n o tM 1 (ar + 1) (5 * (ar + 1)) (ar + 2) a ce top k w code rc ts (F (nI (ar + 1)) (nI o) (nI n) (nI (t_E c n a)) (nI (t_K c n a)) (nI (t_S c n a)) va si 0 (-1) tC (nI ce) code) (x_op c n (nI (v_f0 o)) (nI (v_l0 o)) tM k m 1 a top w.length (ar + 2) rc ws ts)) ∧
  (ar = 5 → ∀ (a ce : Nat) (va si : Int32) (code : Nat → Int32), a ≤ n → t_Cv c n a va si → ce ≤ 700 → x_cf (if t_K c n a = 2 ∨ t_K c n a = 1 ∨ t_G c n a 40 = true then 2 else 1) (t_S c n a) (F (nI 6) (nI o) (nI n) (nI (t_E c n a)) (nI (t_K c n a)) (nI (t_S c n a)) va si 0 (-1) tC (nI ce) code))
theorem x_part (hn : n ≤ 700) (ho : o < 2) (har : ar ≤ 5) (hC : ∀ j, j < n → c j < 256 ∧ tC j = sb_b (c j)) (hM : ∀ j, j < n → c j < 256 ∧ tM j = nI (c j)) (HF : x_HF c n o ar tC tM F) {a ce top k m : Nat} {va si mn : Int32} {w : List Nat} {code rc ws ts : Nat → Int32} (hp : x_P c n a ce top k m va si w ws) :
    x_S c n o tM 7 ar (5 * ar + 5) (ar + 2) a ce top k w code rc ts (f_X2_readPart F (nI ar) (nI o) (nI n) (nI (t_E c n a)) (nI (t_K c n a)) (nI (t_S c n a)) va si 0 (-1) tC (nI ce) code) (x_75 c n (nI (v_f0 o)) (nI (v_l0 o)) tM k m mn a top w.length (ar + 1) rc ws ts) := by
  obtain ⟨ha, hv, hce, htop, hwl, hk, hm, hw, hst⟩ := hp
  obtain ⟨hE1, hE2, hE3⟩ := t_E_le c ha
  obtain ⟨hS1, hS2⟩ := t_S_le c ha
  obtain ⟨hS3, hS4⟩ := t_S_le c hE2
  have hKl := t_K_le c n a
  have h256 : ∀ j, j < n → c j < 256 := fun j hj => (hC j hj).1
  have hl0 := v_l0_lt o
  obtain ⟨m, rfl⟩ : ∃ m', m = m' + 2 := ⟨m - 2, by omega⟩
  obtain ⟨k, rfl⟩ : ∃ k', k = k' + 1 := ⟨k - 1, by omega⟩
  have hk5 : nI (t_K c n a) ≠ 5 := fun z => by have := (nI_eq (a := t_K c n a) (b := 5) (by omega) (by omega)).mp z; omega
  have s40 : f_X8_isSign 40 (nI (t_K c n a)) si = some (if t_G c n a 40 = true then 1 else 0) := t_signC h256 hv (w := 40) (by decide)
  unfold f_X2_readPart f_X8_isNumber
  by_cases k2 : t_K c n a = 2
  · -- a number
    have g40 : t_G c n a 40 = false := by unfold t_G; rw [k2]; rfl
    have hlt := hE3 (by omega)
    have hSn : t_S c n a < n := by omega
    rw [if_pos (by rw [k2]; rfl), gs_b1_s, if_neg n10]
    unfold f_X8_isTooLong
    rw [pk_sub hE1, x_75_pt h256 g40]
    by_cases hl : t_E c n a - t_S c n a ≤ 4
    · left
      obtain ⟨va', si', en, hv'⟩ := t_next hn hC hk5 (nI (t_S c n a)) va si hE2
      have hV := t_V_le c ha k2
      rw [if_pos (show nI (t_E c n a - t_S c n a) ≤ 4 from nI_le (b := 4) hl (by omega)), gs_b1_s, if_pos rfl]
      unfold f_X2_readPart_28
      rw [k_emit (by omega), g_b2_s, en, g_b5_s, x_pt_num hn hM ha k2 hl (by omega), hv.1 k2]
      refine ⟨t_E c n a, [t_V c n a], [t_V c n a], [], va', si', _, upd (upd rc top 1) (top + 1) (nI (t_V c n a)), ws, ts, k + 1, rfl, ?_, ⟨⟨hv', hE2⟩, ⟨⟨?_, trivial⟩, fun j hj => pk_un (by omega)⟩, ⟨?_, fun j hj => ?_⟩, hst, rfl, fun x hx => (by cases hx), fun _ _ => rfl, ⟨Nat.le_refl _, ?_, ?_⟩, fun h hh => x_vc_num (by omega) (by omega), ?_⟩, ⟨fun z => absurd z (by decide), fun z => absurd z (by decide), fun z => absurd z (by decide), fun z => absurd z (by decide), fun z => absurd z (by decide)⟩⟩
      · rw [m_ln, if_pos (by omega), m_ln, List.length_nil, Nat.zero_add]
      · rw [pk_us]
        unfold g_cs
        rw [if_pos (by omega)]
      · rw [m_sg, if_pos (by omega)]
        exact ⟨by rw [pk_un (by omega), pk_us], pk_us, trivial⟩
      · rw [pk_un (by omega), pk_un (by omega)]
      · show t_S c n a + 1 ≤ t_S c n (t_E c n a)
        omega
      · omega
      · intro t ht h1 h2
        have : t = t_V c n a := by simpa using ht
        omega
    · right
      rw [if_neg (show ¬ nI (t_E c n a - t_S c n a) ≤ 4 from nI_ge (a := 4) (by omega) (by omega)), gs_b1_s, if_neg n10, k_fail0, g_b3_s]
      unfold f_X2_readPart_28
      rw [k_emit (by omega), g_b2_s, k_next5, g_b5_s]
      exact ⟨2, t_S c n a, by decide, by decide, ⟨_, _, _, _, ce + 1, _, by omega, rfl⟩, x_pt_long hn ha k2 hl hw hst (by omega) (by omega)⟩
  rw [if_neg (n_ne 2 2 rfl (by omega) (by decide) k2), gs_b1_s, if_pos rfl]
  by_cases k1 : t_K c n a = 1
  · -- a word
    have g40 : t_G c n a 40 = false := by unfold t_G; rw [k1]; rfl
    have hlt := hE3 (by omega)
    have hWl := t_W_le c n a
    obtain ⟨vt1, vt2⟩ := v_tab o ho (t_W c n a) (by omega)
    rw [if_pos (by rw [k1]; rfl), v_read hn hC ha ho, x_75_pt h256 g40]
    unfold f_X2_emitValue_29
    by_cases z : v_W o (t_W c n a) = 99
    · right
      rw [if_pos z, if_pos rfl, k_fail0, g_b3_s, g_b5_s, k_next5, g_b5_s]
      exact ⟨3, t_S c n a, by decide, by decide, ⟨_, _, _, _, ce, _, by omega, rfl⟩, x_pt_noval hn ha k1 (vt1.mp z) hl0.2 hl0.1 hw hst (by omega) (by omega)⟩
    · left
      obtain ⟨q1, q2, q3⟩ := vt2 z
      have hr : v_f0 o ≤ t_W c n a ∧ t_W c n a ≤ v_l0 o := Decidable.of_not_not (fun y => z (vt1.mpr y))
      obtain ⟨va', si', en, hv'⟩ := t_next hn hC hk5 (nI (t_S c n a)) va si hE2
      rw [if_neg z, if_neg (g_m1 (by omega))]
      unfold f_X6_stepOfValue
      rw [gs_b1_s, k_emit (by omega), g_b2_s, g_b5_s, en, g_b5_s, x_pt_val hn hM ha k1 hr.1 hr.2 hl0.1 (by omega)]
      refine ⟨t_E c n a, [10000 + v_W o (t_W c n a)], [10000 + v_W o (t_W c n a)], [], va', si', _, upd (upd rc top 2) (top + 1) (nI (t_W c n a)), ws, ts, k + 1, rfl, ?_, ⟨⟨hv', hE2⟩, ⟨⟨?_, trivial⟩, fun j hj => pk_un (by omega)⟩, ⟨?_, fun j hj => ?_⟩, hst, rfl, fun x hx => (by cases hx), fun _ _ => rfl, ⟨Nat.le_refl _, ?_, ?_⟩, fun h hh => x_vc_val q1 (by omega), ?_⟩, ⟨fun z => absurd z (by decide), fun z => absurd z (by decide), fun z => absurd z (by decide), fun z => absurd z (by decide), fun z => absurd z (by decide)⟩⟩
      · rw [m_ln, if_pos (by omega), m_ln, List.length_nil, Nat.zero_add]
      · rw [pk_us]
        unfold g_cs
        rw [if_neg (by omega), if_pos (by omega), show 10000 + v_W o (t_W c n a) - 10000 = v_W o (t_W c n a) by omega]
      · rw [m_sg, if_neg (by omega), if_pos (by omega), show 10000 + v_W o (t_W c n a) - 10000 = v_W o (t_W c n a) by omega, q2]
        exact ⟨by rw [pk_un (by omega), pk_us], pk_us, trivial⟩
      · rw [pk_un (by omega), pk_un (by omega)]
      · show t_S c n a + 1 ≤ t_S c n (t_E c n a)
        omega
      · omega
      · intro t ht h1 h2
        have e : t = 10000 + v_W o (t_W c n a) := by simpa using ht
        rw [e, show 10000 + v_W o (t_W c n a) - 10000 = v_W o (t_W c n a) by omega]
        exact q3
  rw [if_neg (n_ne 1 1 rfl (by omega) (by decide) k1), s40, gs_b1_s]
  by_cases g40 : t_G c n a 40 = true
  · -- a parenthesis
    have k3 := (t_G_K g40).1
    have hlt := hE3 (by omega)
    obtain ⟨va', si', en, hv'⟩ := t_next hn hC hk5 (nI (t_S c n a)) va si hE2
    rw [if_pos g40, if_neg n10, en, g_b5_s, nI_1 ar]
    rcases Nat.lt_or_ge ar 5 with h5 | h5
    · have hp2 : x_P c n (t_E c n a) ce top (k + 1) (m + 2) va' si' (9 :: w) (upd ws w.length 14) := by
        refine ⟨hE2, hv', by omega, by rw [List.length_cons]; omega, by rw [List.length_cons]; omega, by omega, by omega, fun x hx => ?_, ⟨pk_us, m_st_upd hst (Nat.le_refl _)⟩⟩
        rcases List.mem_cons.mp hx with z | z
        · omega
        · exact hw x z
      have H := HF.1 h5 (t_E c n a) ce top (k + 1) (m + 2) va' si' (9 :: w) code rc (upd ws w.length 14) (upd ts (ar + 1 + 1) 0) hp2 (Or.inl rfl) pk_us (by omega)
      rw [List.length_cons] at H
      rw [x_75_open hn hM ha g40 (by omega) (by omega)]
      have H' : x_S c n o tM 1 (ar + 1) (5 * (ar + 1)) (ar + 2) (t_E c n a) ce top (k + 1) (9 :: w) code rc (upd ts (ar + 1 + 1) 0) (F (nI (ar + 1)) (nI o) (nI n) (nI (t_E c n (t_E c n a))) (nI (t_K c n (t_E c n a))) (nI (t_S c n (t_E c n a))) va' si' 0 (-1) tC (nI ce) code) (x_op c n (nI (v_f0 o)) (nI (v_l0 o)) tM (k + 1) (m + 2) 1 (t_E c n a) top (w.length + 1) (ar + 1 + 1) rc (upd ws w.length 14) (upd ts (ar + 1 + 1) 0)) := H
      rcases H' with ⟨a2, d, e, p, va2, si2, code2, rc2, ws2, ts2, k2', oc, om, ⟨⟨hv2, ha2⟩, ⟨hs1, hs2⟩, ⟨hm1, hm2⟩, hst2, hd, hp3, hts, ⟨hd1, hd2, hd3⟩, hvc, hus⟩, hNT⟩ | ⟨f, s, hf1, hf2, ⟨at2, st2, va2, si2, ce2, code2, hce2, oc⟩, hfin⟩
      · rw [List.length_cons] at om
        rw [oc, g_b9_s, om]
        obtain ⟨hE4, hE5, hE6⟩ := t_E_le c ha2
        obtain ⟨hS5, hS6⟩ := t_S_le c ha2
        obtain ⟨hS7, hS8⟩ := t_S_le c hE5
        have hml : m_ln e + p.length ≤ 2 * d.length := by
          have := m_ln_le d
          rw [hd, m_ln_app, m_ln_ops] at this
          rw [← hd] at this
          exact this
        have hpl : p.length ≤ d.length := by
          rw [hd, List.length_append, m_ops_len]
          omega
        have hKl2 := t_K_le c n a2
        have s41 : f_X8_isSign 41 (nI (t_K c n a2)) si2 = some (if t_G c n a2 41 = true then 1 else 0) := t_signC h256 hv2 (w := 41) (by decide)
        rw [s41, gs_b1_s]
        by_cases g41 : t_G c n a2 41 = true
        · left
          have hk52 : nI (t_K c n a2) ≠ 5 := fun z => by have := (nI_eq (a := t_K c n a2) (b := 5) (by omega) (by omega)).mp z; omega
          have k32 := (t_G_K g41).1
          have hlt2 := hE6 (by omega)
          obtain ⟨va3, si3, en3, hv3⟩ := t_next hn hC hk52 (nI (t_S c n a2)) va2 si2 hE5
          obtain ⟨k3', rfl⟩ : ∃ q, k2' = q + 1 := ⟨k2' - 1, by omega⟩
          obtain ⟨rc3, ecl, hsg, hfr⟩ := x_at_close (fv := nI (v_f0 o)) (lv := nI (v_l0 o)) (k := k3') (dp := ar + 1) (ts := ts2) (rc := rc2) (top := top + m_ln e) hn hM ha2 g41 (fun x hx => (hp3 x hx).1) hw hst2 (by omega) (by omega)
          rw [if_pos g41, if_neg n10]
          unfold f_X2_readPart_123
          rw [en3, g_b5_s, ecl]
          refine ⟨t_E c n a2, d, d, [], va3, si3, code2, rc3, ws2, ts2, k3', rfl, ?_, ⟨⟨hv3, hE5⟩, ⟨hs1, hs2⟩, ⟨?_, fun j hj => ?_⟩, ?_, ?_, fun x hx => (by cases hx), fun i hi => ?_, ⟨hd1, by omega, by omega⟩, fun h hh => hvc h (by omega), hus⟩, ⟨fun z => absurd z (by decide), fun z => absurd z (by decide), fun z => absurd z (by decide), fun z => absurd z (by decide), fun z => absurd z (by decide)⟩⟩
          · rw [hd, m_ln_app, m_ln_ops, List.length_nil, Nat.zero_add, Nat.add_assoc]
          · rw [hd]
            exact m_sg_app e (m_ops p) top (m_sg_cong e top (fun j h1 h2 => hfr j h2) hm1) hsg
          · rw [hfr j (by omega)]
            exact hm2 j hj
          · exact (m_st_app (p := p) hst2).2
          · show d = d ++ m_ops []
            exact (List.append_nil d).symm
          · rw [hts i hi, pk_un (by omega)]
        · right
          obtain ⟨k3', rfl⟩ : ∃ q, k2' = q + 2 := ⟨k2' - 2, by omega⟩
          rw [if_neg g41, if_pos rfl, k_fail0, g_b3_s]
          unfold f_X2_readPart_123
          rw [k_next5, g_b5_s]
          refine ⟨1, t_S c n a2, by decide, by decide, ⟨_, _, _, _, ce + d.length, _, by omega, rfl⟩, ?_⟩
          have hwall : ∀ x, x ∈ p ++ 9 :: w → x ≤ 9 := fun x hx => by
            rcases List.mem_append.mp hx with z | z
            · have := (hp3 x z).1; omega
            · rcases List.mem_cons.mp z with y | y
              · omega
              · exact hw x y
          have est := x_at_stop (fv := nI (v_f0 o)) (lv := nI (v_l0 o)) (k := k3') (dp := ar + 1 + 1) (ts := ts2) (rc := rc2) (top := top + m_ln e) hn hM ha2 (by omega) (hNT.2.2.2.1 (by omega)) (hNT.2.2.2.2 (by omega)) (hNT.2.2.1 (by omega)) (hNT.2.1 (by omega)).1 (hNT.2.1 (by omega)).2 (hNT.1 (by omega)).1 (hNT.1 (by omega)).2 (Or.inl (Bool.eq_false_iff.mpr g41)) hwall hst2 (by rw [List.length_append, List.length_cons]; omega)
          rw [List.length_append, List.length_cons] at est
          rw [est]
          unfold f_X12_expression_340
          rw [x_good0, gs_b1_s, if_neg n10, if_neg (show ¬ nI (ar + 1 + 1) ≤ 1 from nI_ge (a := 1) (by omega) (by omega)), x_wrong0, g_b2_s]
          have := x_360 (fv := nI (v_f0 o)) (lv := nI (v_l0 o)) (w := p ++ 9 :: w) (top := top + m_ln e) (rc := rc2) (ws := ws2) hwall hst2 (by rw [List.length_append, List.length_cons]; omega) (by rw [List.length_append, List.length_cons]; omega) 1 (nI (t_S c n a2)) (nI (t_E c n a2)) (nI (t_K c n a2)) (nI (t_S c n a2)) (nI (t_E c n a2 - t_S c n a2)) (t_mv c n a2) (t_ms c n a2) (t_mw c n a2) (nI (ar + 1 + 1)) ts2
          rw [List.length_append, List.length_cons] at this
          exact this
      · right
        have hfne : nI f ≠ 0 := fun z => by have := (nI_eq (a := f) (b := 0) (by omega) (by omega)).mp z; omega
        rw [oc, g_b9_s, k_sign5, gs_b1_s, if_pos rfl, k_fail5 hfne, g_b3_s]
        unfold f_X2_readPart_123
        rw [k_next5, g_b5_s]
        exact ⟨f, s, hf1, hf2, ⟨_, _, _, _, ce2, _, hce2, rfl⟩, hfin⟩
    · right
      have e5 : ar = 5 := by omega
      subst e5
      obtain ⟨at2, st2, va2, si2, ce2, code2, hce2, oc⟩ := HF.2 rfl (t_E c n a) ce va' si' code hE2 hv' (by omega)
      have hfin := x_75_deep (fv := nI (v_f0 o)) (lv := nI (v_l0 o)) (k := k) (m := m + 1) (mn := mn) (ts := ts) (rc := rc) (top := top) hn hM ha g40 hw hst (by omega) (by omega)
      generalize hfv : (if t_K c n (t_E c n a) = 2 ∨ t_K c n (t_E c n a) = 1 ∨ t_G c n (t_E c n a) 40 = true then 2 else 1) = f at oc hfin
      have hf12 : f = 1 ∨ f = 2 := by
        rw [← hfv]
        split <;> omega
      have hfne : nI f ≠ 0 := fun z => by have := (nI_eq (a := f) (b := 0) (by omega) (by omega)).mp z; omega
      have oc' : F (nI (5 + 1)) (nI o) (nI n) (nI (t_E c n (t_E c n a))) (nI (t_K c n (t_E c n a))) (nI (t_S c n (t_E c n a))) va' si' 0 (-1) tC (nI ce) code = _ := oc
      rw [oc', g_b9_s, k_sign5, gs_b1_s, if_pos rfl, k_fail5 hfne, g_b3_s]
      unfold f_X2_readPart_123
      rw [k_next5, g_b5_s]
      exact ⟨f, t_S c n (t_E c n a), by omega, by omega, ⟨_, _, _, _, ce2, _, hce2, rfl⟩, hfin⟩
  · right
    have g40' : t_G c n a 40 = false := Bool.eq_false_iff.mpr g40
    rw [if_neg g40, if_pos rfl, k_fail0, g_b3_s, x_75_pt h256 g40']
    exact ⟨1, t_S c n a, by decide, by decide, ⟨_, _, _, _, ce, _, by omega, rfl⟩, x_pt_no hn k1 k2 hw hst (by omega) (by omega)⟩
end LEV
