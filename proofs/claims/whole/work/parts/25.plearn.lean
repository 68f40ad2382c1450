/-! ===== pure rows: a song is learnt ===== -/
def g_clamp (x : Int32) : Int32 := if 0 < (if x < 9 then x else 9) then (if x < 9 then x else 9) else 0
theorem g_clamp_b (x : Int32) : f_X12_bounded x 0 9 = some (g_clamp x) := by
  unfold f_X12_bounded g_clamp
  have h0 : (0 : Int32).toInt = 0 := rfl
  have h9 : (9 : Int32).toInt = 9 := rfl
  by_cases a : (0 : Int32) ≤ x
  · rw [if_pos a]
    by_cases b : x ≤ 9
    · rw [if_pos b]
      by_cases c : x < 9
      · rw [if_pos c]
        by_cases d : (0 : Int32) < x
        · rw [if_pos d]
        · rw [if_neg d]
          refine congrArg some (Int32.toInt_inj.mp ?_)
          rw [Int32.lt_iff_toInt_lt] at d
          rw [Int32.le_iff_toInt_le] at a
          omega
      · rw [if_neg c, if_pos (by decide)]
        refine congrArg some (Int32.toInt_inj.mp ?_)
        rw [Int32.lt_iff_toInt_lt] at c
        rw [Int32.le_iff_toInt_le] at b
        omega
    · rw [if_neg b, if_neg (fun c : x < 9 => b (by rw [Int32.lt_iff_toInt_lt] at c; rw [Int32.le_iff_toInt_le]; omega)), if_pos (by decide)]
  · rw [if_neg a]
    have c : x < 9 := by
      rw [Int32.le_iff_toInt_le] at a
      rw [Int32.lt_iff_toInt_lt]
      omega
    rw [if_pos c, if_neg (fun d : (0 : Int32) < x => a (by rw [Int32.lt_iff_toInt_lt] at d; rw [Int32.le_iff_toInt_le]; omega))]
theorem g_clamp_d (x : Int32) : ∃ d, d ≤ 9 ∧ g_clamp x = nI d := by
  have h0 : (0 : Int32).toInt = 0 := rfl
  have h9 : (9 : Int32).toInt = 9 := rfl
  unfold g_clamp
  have hy : (if x < 9 then x else 9 : Int32) ≤ 9 := by
    split
    · rename_i h
      rw [Int32.lt_iff_toInt_lt] at h
      rw [Int32.le_iff_toInt_le]
      omega
    · exact Int32.le_refl _
  generalize (if x < 9 then x else 9 : Int32) = y at hy ⊢
  by_cases h : 0 < y
  · rw [if_pos h]
    exact nI_of2 (M := 9) (n := 9) rfl (by rw [Int32.lt_iff_toInt_lt] at h ⊢; omega) hy
  · rw [if_neg h]
    exact ⟨0, by omega, rfl⟩
def g_vf (w day : Int32) (k : Nat) (bf af : Int32) (v : Nat) : Int32 := if v = 1 then w else if v = 3 then nI k else if v = 7 then bf else if v = 8 then af else day
def g_fill (rl : Option (List Nat)) (w day : Int32) (k : Nat) (bf af : Int32) : Int32 :=
  match rl with
  | none => bf
  | some c => g_clamp ((g_ev (g_vf w day k bf af) c []).headD 0)
theorem g_VL_cases {n : Nat} (h : g_VL n = true) : n = 1 ∨ n = 3 ∨ n = 6 ∨ n = 7 ∨ n = 8 := by
  simp only [g_VL, Bool.or_eq_true, beq_iff_eq] at h
  omega
/-- class: a gap is filled -/
theorem l_filled {C W CC CM : Nat → Int32} {lF lT lA : Int32} {rl : Option (List Nat)} {p k : Nat} (hp : p < 7) (hr : g_rule g_VL CC lF lT CM lA rl) (bf af : Int32) (v t : Nat → Int32) :
    ∃ v' t', f_X1_filled (nI p) (nI k) bf af lF lT W CC v t C = some (g_fill rl (W p) (C 0) k bf af, v', t') := by
  unfold f_X1_filled
  cases rl with
  | none =>
    rw [if_pos hr.1]
    exact ⟨v, t, rfl⟩
  | some c =>
    obtain ⟨i0, k0, hf, ht, -, hi7, -, hsg, -, hok, hus⟩ := hr
    rw [if_neg (by rw [hf]; exact g_m1 (by omega)), gs_gd_t (gs_in_nI hp (by decide)), gd91, gd93, gd97, gd98, g_day, gs_b1_s, gd96, tc1, tc3, tc7, tc8, tc6, nI_clamp (n := p) (by omega), hf, ht]
    obtain ⟨t', ht'⟩ := r_reckon (vals := upd (upd (upd (upd (upd v 1 (W p)) 3 (nI k)) 7 bf) 8 af) 6 (C 0)) hsg hok hi7 t
    rw [ht', g_b2_s, g_ev_cong (v := g_vf (W p) (C 0) k bf af) (fun n hn => by rcases g_VL_cases hn with h | h | h | h | h <;> subst h <;> rfl) [] hus]
    exact ⟨_, _, rfl⟩
theorem l_121 {M CM CC : Nat → Int32} {lF lT lA w : Int32} {c : List Nat} {b k : Nat} (hb : b ≤ 372) (hr : g_rule g_VL CC lF lT CM lA (some c)) (bf af : Int32) (t q : Nat → Int32) :
    ∃ t' q', f_X12_fillsBy_121 8 af (nI b) lA CM M (upd (upd (upd t 4 w) 5 (nI k)) 7 bf) q = some (g_fill (some c) w (M b) k bf af, t', q') := by
  obtain ⟨i0, k0, -, -, hA, -, hk14, -, hsg, hok, hus⟩ := hr
  unfold f_X12_fillsBy_121
  rw [gd98, g_add0, gs_gd_t (gs_in_nI (n := 744) (i := b) (by omega) (by decide)), gd96, tc8, tc6, nI_clamp (n := b) (by omega), hA]
  obtain ⟨q', hq'⟩ := r_reckons (told := upd (upd (upd (upd (upd t 4 w) 5 (nI k)) 7 bf) 8 af) 6 (M b)) hsg hok hk14 q
  rw [hq', g_b2_s, g_ev_cong (v := g_vf w (M b) k bf af) (fun n hn => by rcases g_VL_cases hn with h | h | h | h | h <;> subst h <;> rfl) [] hus, g_clamp_b, gs_b1_s]
  exact ⟨_, _, rfl⟩
theorem l_72 {M MW CM CC : Nat → Int32} {lF lT lA : Int32} {c : List Nat} {b p k : Nat} (hb : b ≤ 372) (hp : p < 7) (hr : g_rule g_VL CC lF lT CM lA (some c)) (bf k0 : Int32) (t q : Nat → Int32) :
    ∃ t' q', f_X12_fillsBy_72 k0 (nI b) (nI p) (nI k) bf lA MW CM M t q = some (g_fill (some c) (MW p) (M b) k bf (if k0 = -1 then 0 else k0), t', q') := by
  unfold f_X12_fillsBy_72
  rw [gs_gd_t (gs_in_nI hp (by decide)), gd94, gd95, gd97, tc4, tc5, tc7, nI_clamp (n := p) (by omega)]
  by_cases h : k0 = -1
  · rw [if_pos h, if_pos h]
    exact l_121 hb hr bf 0 t q
  · rw [if_neg h, if_neg h]
    exact l_121 hb hr bf k0 t q
theorem l_25 {M ML MW CM CC : Nat → Int32} {lF lT lA : Int32} {rl : Option (List Nat)} {b p s o k n : Nat} (hb : b ≤ 372) (hp : p < 7) (ho : o < 7) (hs : s < 5) (hk : k < n) (hl : ML s = nI n) (hn : n ≤ 8) (hr : g_rule g_VL CC lF lT CM lA rl) (bf : Int32) (t q : Nat → Int32) :
    ∃ t' q', f_X12_fillsBy_25 bf (nI b) (nI p) (nI s) (nI k) (nI o) lA ML MW CM M t q = some (g_fill rl (MW p) (M b) k bf (if k + 1 < n then (if M (b + (1 + 40 * o + 8 * s + (k + 1))) = -1 then 0 else M (b + (1 + 40 * o + 8 * s + (k + 1)))) else 0), t', q') := by
  unfold f_X12_fillsBy_25
  cases rl with
  | none =>
    rw [if_pos hr.2]
    exact ⟨t, q, rfl⟩
  | some c =>
    have hne : ¬ lA = -1 := by
      obtain ⟨i0, k0, -, -, hA, -, hk14, -⟩ := hr
      rw [hA]
      exact g_m1 (by omega)
    rw [if_neg hne, gs_gd_t (gs_in_nI hs (by decide)), nI_clamp (n := s) (by omega), hl, nI_1]
    by_cases h : k + 1 < n
    · rw [if_neg (nI_ge h (by omega)), if_pos h, m_noteAt, gs_b1_s, nI_add, gs_gd_t (gs_in_nI (by omega) (by decide)), nI_clamp (by omega)]
      exact l_72 hb hp hr bf _ t q
    · rw [if_pos (nI_le (by omega) (by omega)), if_neg h]
      have := l_72 (M := M) (MW := MW) (k := k) hb hp hr bf 0 t q
      rw [if_neg (by decide)] at this
      exact this
def g_aft (th : Nat → Int32) (n k : Nat) : Int32 := if k + 1 < n then (if th (k + 1) = -1 then 0 else th (k + 1)) else 0
def g_lv (rl : Option (List Nat)) (w day : Int32) (th : Nat → Int32) (n : Nat) : Nat → Int32
  | 0 => if th 0 = -1 then g_fill rl w day 0 0 (g_aft th n 0) else th 0
  | k + 1 => if th (k + 1) = -1 then g_fill rl w day (k + 1) (g_lv rl w day th n k) (g_aft th n (k + 1)) else th (k + 1)
def g_bf (lv : Nat → Int32) : Nat → Int32
  | 0 => 0
  | k + 1 => lv k
theorem g_lv_eq (rl : Option (List Nat)) (w day : Int32) (th : Nat → Int32) (n k : Nat) : g_lv rl w day th n k = if th k = -1 then g_fill rl w day k (g_bf (g_lv rl w day th n) k) (g_aft th n k) else th k := by
  cases k <;> rfl
theorem g_lv_cong (rl : Option (List Nat)) (w day : Int32) {th th' : Nat → Int32} {n : Nat} (h : ∀ k, k < n → th k = th' k) : ∀ k, k < n → g_lv rl w day th n k = g_lv rl w day th' n k
  | 0, hk => by
    have : g_aft th n 0 = g_aft th' n 0 := by
      unfold g_aft
      by_cases h1 : 0 + 1 < n
      · rw [if_pos h1, if_pos h1, h _ h1]
      · rw [if_neg h1, if_neg h1]
    rw [g_lv, g_lv, h 0 hk, this]
  | k + 1, hk => by
    have : g_aft th n (k + 1) = g_aft th' n (k + 1) := by
      unfold g_aft
      by_cases h1 : k + 1 + 1 < n
      · rw [if_pos h1, if_pos h1, h _ h1]
      · rw [if_neg h1, if_neg h1]
    rw [g_lv, g_lv, h (k + 1) hk, this, g_lv_cong rl w day h k (by omega)]
def g_dg (x : Int32) : Prop := ∃ d, d ≤ 9 ∧ x = nI d
theorem g_fill_d {rl : Option (List Nat)} {w day bf af : Int32} {k : Nat} (h : g_dg bf) : g_dg (g_fill rl w day k bf af) := by
  cases rl with
  | none => exact h
  | some c => exact g_clamp_d _
theorem g_lv_d {rl : Option (List Nat)} {w day : Int32} {th : Nat → Int32} {n : Nat} (h : ∀ k, k < n → th k = -1 ∨ g_dg (th k)) : ∀ k, k < n → g_dg (g_lv rl w day th n k)
  | 0, hk => by
    rw [g_lv]
    by_cases h1 : th 0 = -1
    · rw [if_pos h1]; exact g_fill_d ⟨0, by omega, rfl⟩
    · rw [if_neg h1]; exact (h 0 hk).resolve_left h1
  | k + 1, hk => by
    rw [g_lv]
    by_cases h1 : th (k + 1) = -1
    · rw [if_pos h1]; exact g_fill_d (g_lv_d h k (by omega))
    · rw [if_neg h1]; exact (h (k + 1) hk).resolve_left h1
def g_mn (lv : Nat → Int32) : Nat → Int32
  | 0 => -1
  | k + 1 => g_wn (g_mn lv k) k (lv k)
theorem g_mn_nt {lv : Nat → Int32} : ∀ (n : Nat), n ≤ 8 → (∀ k, k < n → g_dg (lv k)) → ∀ j, j < 8 → g_nt (g_mn lv n) j = if j < n then lv j else -1
  | 0, _, _, j, hj => by rw [g_mn, g_nt_m j hj, if_neg (Nat.not_lt_zero _)]
  | n + 1, hn, h, j, hj => by
    rw [g_mn, g_nt_wn _ _ (by omega) hj]
    by_cases e : j = n
    · obtain ⟨d, hd, he⟩ := h n (by omega)
      rw [if_pos e, if_pos (by omega), e, he, g_nt_d d (by omega)]
    · rw [if_neg e, g_mn_nt n (by omega) (fun k hk => h k (by omega)) j hj]
      by_cases h2 : j < n
      · rw [if_pos h2, if_pos (by omega)]
      · rw [if_neg h2, if_neg (by omega)]
theorem g_nt_or (x : Int32) (k : Nat) : g_nt x k = -1 ∨ ∃ d, d < 16 ∧ g_nt x k = nI d := by
  unfold g_nt
  by_cases h : g_nib x k = 15
  · rw [if_pos h]; exact Or.inl rfl
  · rw [if_neg h]; exact Or.inr ⟨_, g_nib_lt x k, rfl⟩
theorem l_behind {L : Nat → Int32} {x : Int32} {s n k : Nat} (hs : s < 5) (hl : L s = nI n) (hn : n ≤ 8) (hk : k < n) : f_X1_noteBehind (nI s) x (nI k) L = some (g_aft (g_nt x) n k) := by
  unfold f_X1_noteBehind g_aft
  rw [gs_gd_t (gs_in_nI hs (by decide)), nI_clamp (n := s) (by omega), hl, nI_1]
  by_cases h : k + 1 < n
  · rw [if_pos (nI_lt h (by omega)), if_pos h, g_noteAt _ (by omega), gs_b1_s]
    rcases g_nt_or x (k + 1) with e | ⟨d, hd, e⟩
    · rw [e, if_pos rfl, if_neg (by decide)]
    · rw [e, if_neg (g_m1 (by omega))]
      by_cases h0 : d = 0
      · subst h0
        rfl
      · rw [if_pos (show (0 : Int32) < nI d from nI_lt (a := 0) (by omega) (by omega))]
  · rw [if_neg (nI_nlt (by omega) (by omega)), if_neg h]
/-- class: the notes that one would learn -/
theorem l_learnt {C L W CC CM : Nat → Int32} {lF lT lA : Int32} {rl : Option (List Nat)} {p s o n : Nat} (hp : p < 7) (hs : s < 5) (ho : o < 7) (hl : L s = nI n) (hn : n ≤ 8) (hr : g_rule g_VL CC lF lT CM lA rl) (v t : Nat → Int32) :
    ∃ v' t', f_X1_learntNotes (nI p) (nI s) (nI o) lF lT L W CC v t C = some (g_mn (g_lv rl (W p) (C 0) (g_nt (C (8 + 5 * o + s))) n) n, v', t') := by
  unfold f_X1_learntNotes
  rw [g_notes ho hs, gs_b1_s]
  generalize C (8 + 5 * o + s) = x
  generalize hlv : g_lv rl (W p) (C 0) (g_nt x) n = lv
  have h := g_run (z := fun _ _ _ _ _ => none) (b := f_X1_learntNotes_18 (nI p) (nI s) x lF lT L W CC C) (ρ := Int32 × (Nat → Int32) × (Nat → Int32)) (σ := Nat × (Nat → Int32) × (Nat → Int32)) (fun K y => K (g_mn lv y.1) (g_bf lv y.1) (nI y.1) y.2.1 y.2.2) (fun y => n - y.1)
    (fun y r => y.1 ≤ n → ∃ v' t', r = some (g_mn lv n, v', t'))
    ?_ gs_fuel (0, v, t) (by show n - 0 < gs_fuel; rw [gs_fuel_eq]; omega) (Nat.zero_le _)
  · have h' : ∃ v' t', gs_it (fun _ _ _ _ _ => none) (f_X1_learntNotes_18 (nI p) (nI s) x lF lT L W CC C) gs_fuel (-1) 0 (nI 0) v t = some (g_mn lv n, v', t') := h
    rw [nI_0] at h'
    exact h'
  · rintro K ⟨i, v, t⟩ ih hi
    replace hi : i ≤ n := hi
    show ∃ v' t', f_X1_learntNotes_18 (nI p) (nI s) x lF lT L W CC C K (g_mn lv i) (g_bf lv i) (nI i) v t = _
    unfold f_X1_learntNotes_18
    rw [gs_gd_t (gs_in_nI hs (by decide)), nI_clamp (n := s) (by omega), hl]
    rcases Nat.lt_or_ge i n with hl2 | hl2
    · rw [if_neg (nI_ge hl2 (by omega)), g_noteAt _ (by omega), gs_b1_s]
      have step : ∀ (v t : Nat → Int32), ∃ v' t', f_X1_learntNotes_68 (fun (x6' : Int32) (x7' : Int32) (x8' : Int32) (r_t_reckoner_values' : Nat → Int32) (r_t_reckoner_stack' : Nat → Int32) => K x6' x7' x8' r_t_reckoner_values' r_t_reckoner_stack') (nI p) (nI s) x (g_mn lv i) (nI i) (lv i) lF lT L W CC v t C = some (g_mn lv n, v', t') := by
        intro v t
        unfold f_X1_learntNotes_68
        rw [g_withNote, gs_b1_s, nI_1]
        exact ih (i + 1, v, t) (by show n - (i + 1) < n - i; omega) (by show i + 1 ≤ n; omega)
      have hi' := g_lv_eq rl (W p) (C 0) (g_nt x) n i
      rw [hlv] at hi'
      by_cases h1 : g_nt x i = -1
      · rw [if_pos h1] at hi' ⊢
        obtain ⟨v1, t1, hf⟩ := l_filled (C := C) (W := W) (k := i) hp hr (g_bf lv i) (g_aft (g_nt x) n i) v t
        rw [l_behind hs hl hn hl2, gs_b1_s, hf, g_b3_s, ← hi']
        exact step v1 t1
      · rw [if_neg h1] at hi' ⊢
        rw [← hi']
        exact step v t
    · have e : i = n := by omega
      subst e
      rw [if_pos (nI_le (Nat.le_refl _) (by omega))]
      exact ⟨v, t, rfl⟩
/-- model: one learns a song of another one -/
theorem l_learns {M ML MW CM CC : Nat → Int32} {lF lT lA ln : Int32} {rl : Option (List Nat)} {b p s o n : Nat} (hb : b ≤ 372) (hp : p < 7) (hs : s < 5) (ho : o < 7) (hpo : p ≠ o) (hl : ML s = nI n) (hn : n ≤ 8) (hr : g_rule g_VL CC lF lT CM lA rl) (t q : Nat → Int32) :
    ∃ t' q', f_X12_learns (nI b) (nI p) (nI s) (nI o) lA ln ML MW CM M t q = some (ln + 1, upd (upd (g_cpy (g_lv rl (MW p) (M b) (fun k => M (b + (1 + 40 * o + 8 * s + k))) n) M (b + (1 + 40 * p + 8 * s)) n) (b + 281 + 5 * p + s) 1) (b + 316 + 5 * p + s) (nI o), t', q') := by
  unfold f_X12_learns
  generalize hlv : g_lv rl (MW p) (M b) (fun k => M (b + (1 + 40 * o + 8 * s + k))) n = lv
  have h := g_run (z := fun _ _ _ _ => none) (b := f_X12_learns_3 (nI b) (nI p) (nI s) (nI o) lA ln ML MW CM (fun (r_t_rows' : Nat → Int32) (r_t_told' : Nat → Int32) (r_t_pile' : Nat → Int32) => f_X12_learns_73 (nI b) (nI p) (nI s) (nI o) ln r_t_rows' r_t_told' r_t_pile')) (ρ := Int32 × (Nat → Int32) × (Nat → Int32) × (Nat → Int32)) (σ := Nat × (Nat → Int32) × (Nat → Int32)) (fun K y => K (nI y.1) (g_cpy lv M (b + (1 + 40 * p + 8 * s)) y.1) y.2.1 y.2.2) (fun y => n - y.1)
    (fun y r => y.1 ≤ n → ∃ t' q', r = some (ln + 1, upd (upd (g_cpy lv M (b + (1 + 40 * p + 8 * s)) n) (b + 281 + 5 * p + s) 1) (b + 316 + 5 * p + s) (nI o), t', q'))
    ?_ gs_fuel (0, t, q) (by show n - 0 < gs_fuel; rw [gs_fuel_eq]; omega) (Nat.zero_le _)
  · have h' : ∃ t' q', gs_it (fun _ _ _ _ => none) (f_X12_learns_3 (nI b) (nI p) (nI s) (nI o) lA ln ML MW CM (fun (r_t_rows' : Nat → Int32) (r_t_told' : Nat → Int32) (r_t_pile' : Nat → Int32) => f_X12_learns_73 (nI b) (nI p) (nI s) (nI o) ln r_t_rows' r_t_told' r_t_pile')) gs_fuel (nI 0) (g_cpy lv M (b + (1 + 40 * p + 8 * s)) 0) t q = _ := h
    rw [nI_0, ← g_cpy_0] at h'
    exact h'
  · rintro K ⟨i, t, q⟩ ih hi
    replace hi : i ≤ n := hi
    show ∃ t' q', f_X12_learns_3 (nI b) (nI p) (nI s) (nI o) lA ln ML MW CM _ K (nI i) (g_cpy lv M (b + (1 + 40 * p + 8 * s)) i) t q = _
    unfold f_X12_learns_3
    rw [gs_gd_t (gs_in_nI hs (by decide)), nI_clamp (n := s) (by omega), hl]
    rcases Nat.lt_or_ge i n with hl2 | hl2
    · have hth : ∀ j, j < 8 → g_cpy lv M (b + (1 + 40 * p + 8 * s)) i (b + (1 + 40 * o + 8 * s + j)) = M (b + (1 + 40 * o + 8 * s + j)) := fun j hj => g_cpy_out (by omega)
      have hday : g_cpy lv M (b + (1 + 40 * p + 8 * s)) i b = M b := g_cpy_out (by omega)
      have hbf : (if i = 0 then 0 else g_cpy lv M (b + (1 + 40 * p + 8 * s)) i (b + (1 + 40 * p + 8 * s + (i - 1)))) = g_bf lv i := by
        cases i with
        | zero => rfl
        | succ j =>
          rw [if_neg (by omega), g_cpy_in (by omega) (by omega)]
          show lv _ = lv j
          exact congrArg lv (by omega)
      rw [if_neg (nI_ge hl2 (by omega)), m_noteAt, gs_b1_s, nI_add, gs_gd_t (gs_in_nI (by omega) (by decide)), m_noteAt, gs_b1_s, nI_add, nI_clamp (n := b + (1 + 40 * o + 8 * s + i)) (by omega), hth i (by omega), nI_1]
      have hi' := g_lv_eq rl (MW p) (M b) (fun k => M (b + (1 + 40 * o + 8 * s + k))) n i
      rw [hlv] at hi'
      have hcp := g_cpy_s lv M (b + (1 + 40 * p + 8 * s)) i
      by_cases h1 : M (b + (1 + 40 * o + 8 * s + i)) = -1
      · rw [if_pos h1] at hi' ⊢
        have hfb : ∃ t' q', f_X12_fillsBy (nI b) (nI p) (nI s) (nI i) (nI o) lA ML MW CM (g_cpy lv M (b + (1 + 40 * p + 8 * s)) i) t q = some (lv i, t', q') := by
          have h25 := l_25 (M := g_cpy lv M (b + (1 + 40 * p + 8 * s)) i) (MW := MW) (k := i) hb hp ho hs hl2 hl hn hr (g_bf lv i) t q
          have haf : (if i + 1 < n then (if g_cpy lv M (b + (1 + 40 * p + 8 * s)) i (b + (1 + 40 * o + 8 * s + (i + 1))) = -1 then 0 else g_cpy lv M (b + (1 + 40 * p + 8 * s)) i (b + (1 + 40 * o + 8 * s + (i + 1)))) else 0) = g_aft (fun k => M (b + (1 + 40 * o + 8 * s + k))) n i := by
            unfold g_aft
            by_cases h2 : i + 1 < n
            · rw [if_pos h2, if_pos h2, hth (i + 1) (by omega)]
            · rw [if_neg h2, if_neg h2]
          rw [haf, hday, ← hi'] at h25
          unfold f_X12_fillsBy
          cases i with
          | zero =>
            rw [if_pos nI_0]
            exact h25
          | succ j =>
            rw [if_neg (nI_ne0 (by omega) (by omega)), nI_pred, m_noteAt, gs_b1_s, nI_add, gs_gd_t (gs_in_nI (by omega) (by decide)), nI_clamp (n := b + (1 + 40 * p + 8 * s + j)) (by omega)]
            rw [if_neg (by omega), show j + 1 - 1 = j from rfl] at hbf
            rw [hbf]
            exact h25
        obtain ⟨t', q', hf⟩ := hfb
        rw [hf, g_b3_s, gs_gd_t (gs_in_nI (by omega) (by decide)), nI_clamp (n := b + (1 + 40 * p + 8 * s + i)) (by omega), show b + (1 + 40 * p + 8 * s + i) = b + (1 + 40 * p + 8 * s) + i by omega, hcp]
        exact ih (i + 1, t', q') (by show n - (i + 1) < n - i; omega) (by show i + 1 ≤ n; omega)
      · rw [if_neg h1] at hi' ⊢
        rw [gs_gd_t (gs_in_nI (by omega) (by decide)), nI_clamp (n := b + (1 + 40 * p + 8 * s + i)) (by omega), show b + (1 + 40 * p + 8 * s + i) = b + (1 + 40 * p + 8 * s) + i by omega, ← hi', hcp]
        exact ih (i + 1, t, q) (by show n - (i + 1) < n - i; omega) (by show i + 1 ≤ n; omega)
    · have e : i = n := by omega
      subst e
      rw [if_pos (nI_le (Nat.le_refl _) (by omega))]
      show ∃ t' q', f_X12_learns_73 (nI b) (nI p) (nI s) (nI o) ln (g_cpy lv M (b + (1 + 40 * p + 8 * s)) i) t q = _
      unfold f_X12_learns_73
      rw [m_ixH, m_ixT, gs_gd_t (gs_in_nI (by omega) (by decide)), gs_gd_t (gs_in_nI (by omega) (by decide)), nI_clamp (by omega), nI_clamp (by omega)]
      exact ⟨t, q, rfl⟩
