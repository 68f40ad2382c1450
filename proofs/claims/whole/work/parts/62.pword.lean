/-! ===== pure rows: which word a token is ===== -/
theorem n_ne {x : Nat} (v : Nat) (lit : Int32) (hl : lit = nI v) (hx : x < 2 ^ 31) (hv : v < 2 ^ 31) (h : x ≠ v) : ¬ nI x = lit := fun z => h ((nI_eq hx hv).mp (z.trans hl))
def t_wi (k : Nat) : Nat := [6, 7, 8, 9, 3, 4, 5, 10, 11, 12, 13, 14, 15, 16, 17, 1, 0, 2].getD k 18
def t_ix (i : Nat) : Nat := [16, 15, 17, 4, 5, 6, 0, 1, 2, 3, 7, 8, 9, 10, 11, 12, 13, 14].getD i 18
def t_ch (i j : Nat) : Nat := (gs_sc i j).toNatClampNeg
def t_wl (k : Nat) : Nat := t_wc (t_ch (t_wi k)) 0 (gs_sl (t_wi k))
theorem t_ix_tab : ∀ i, i < 18 → t_ix i < 18 ∧ t_wi (t_ix i) = i ∧ gs_sl i ≤ 7 ∧ f_J0_length_8abf5 i = some (nI (gs_sl i)) ∧ ∀ j, j < gs_sl i → t_lt (t_ch i j) = true ∧ t_ch i j < 256 ∧ f_J0_charAt_5068e i (nI j) = some (nI (t_ch i j)) := by decide +kernel
theorem t_wl_tab : ∀ k, k < 18 → t_wl k < 2 ^ 35 ∧ f_X12_letters (nI k) = some (lN (t_wl k)) ∧ ∀ j, j < k → t_wl j ≠ t_wl k := by decide +kernel
theorem t_wi_tab : ∀ k, k < 18 → t_wi k < 18 ∧ t_ix (t_wi k) = k := by decide +kernel
theorem t_wc_lt {c : Nat → Nat} {s : Nat} : ∀ m, (∀ j, j < m → t_lt (c (s + j)) = true) → t_wc c s m < 32 ^ m
  | 0, _ => by rw [t_wc]; decide
  | m + 1, h => by
    have h1 := t_wc_lt m (fun j hj => h j (by omega))
    have h2 := h m (by omega)
    unfold t_lt at h2
    simp at h2
    rw [t_wc, Nat.pow_succ]
    omega
theorem t_wc_inj {c1 c2 : Nat → Nat} {s1 s2 : Nat} : ∀ m1 m2, (∀ j, j < m1 → t_lt (c1 (s1 + j)) = true) → (∀ j, j < m2 → t_lt (c2 (s2 + j)) = true) → t_wc c1 s1 m1 = t_wc c2 s2 m2 → m1 = m2 ∧ ∀ j, j < m1 → c1 (s1 + j) = c2 (s2 + j)
  | 0, 0, _, _, _ => ⟨rfl, fun j hj => absurd hj (Nat.not_lt_zero _)⟩
  | 0, m2 + 1, _, h2, e => by
    have := h2 m2 (by omega)
    unfold t_lt at this
    simp at this
    rw [t_wc, t_wc] at e
    omega
  | m1 + 1, 0, h1, _, e => by
    have := h1 m1 (by omega)
    unfold t_lt at this
    simp at this
    rw [t_wc, t_wc] at e
    omega
  | m1 + 1, m2 + 1, h1, h2, e => by
    have a1 := h1 m1 (by omega)
    have a2 := h2 m2 (by omega)
    unfold t_lt at a1 a2
    simp at a1 a2
    rw [t_wc, t_wc] at e
    obtain ⟨e1, e2⟩ := t_wc_inj m1 m2 (fun j hj => h1 j (by omega)) (fun j hj => h2 j (by omega)) (by omega)
    subst e1
    refine ⟨rfl, fun j hj => ?_⟩
    rcases Nat.lt_or_ge j m1 with hl | hl
    · exact e2 j hl
    · have : j = m1 := by omega
      subst this
      omega
theorem t_wc_cong {c1 c2 : Nat → Nat} {s1 s2 : Nat} : ∀ m, (∀ j, j < m → c1 (s1 + j) = c2 (s2 + j)) → t_wc c1 s1 m = t_wc c2 s2 m
  | 0, _ => rfl
  | m + 1, h => by rw [t_wc, t_wc, t_wc_cong m (fun j hj => h j (by omega)), h m (by omega)]
theorem l_inj {a b : Nat} (ha : a < 2 ^ 63) (hb : b < 2 ^ 63) (h : lN a = lN b) : a = b := by
  have h1 := congrArg (fun x : Int64 => x.toBitVec.toNat) h
  have h2 : a % 2 ^ 64 = b % 2 ^ 64 := h1
  omega
/-- which known word; 18: none -/
def t_W (c : Nat → Nat) (n a : Nat) : Nat := if t_K c n a = 1 ∧ t_E c n a - t_S c n a ≤ 7 then (g_ff (fun k => t_wl k == t_wc c (t_S c n a) (t_E c n a - t_S c n a)) 18 0).getD 18 else 18
section WD
variable {c : Nat → Nat} {n : Nat} {tC tM : Nat → Int32}
theorem t_W_le (c : Nat → Nat) (n a : Nat) : t_W c n a ≤ 18 := by
  unfold t_W
  split
  · cases hf : g_ff (fun k => t_wl k == t_wc c (t_S c n a) (t_E c n a - t_S c n a)) 18 0 with
    | none => exact Nat.le_refl _
    | some k =>
      have := (g_ff_some 18 0 hf).2.1
      show k ≤ 18
      omega
  · exact Nat.le_refl _
theorem t_W_K {a : Nat} (h : t_W c n a < 18) : t_K c n a = 1 := by
  unfold t_W at h
  split at h
  · rename_i z; exact z.1
  · omega
theorem t_K1 {a : Nat} (ha : a ≤ n) (hk : t_K c n a = 1) : ∀ j, j < t_E c n a - t_S c n a → t_lt (c (t_S c n a + j)) = true := by
  have he : t_E c n a = t_en (fun j => t_lt (c j)) n (t_S c n a) := by
    unfold t_K at hk
    unfold t_E
    by_cases h : n ≤ t_S c n a
    · rw [if_pos h] at hk; cases hk
    · rw [if_neg h] at hk ⊢
      by_cases hl : t_lt (c (t_S c n a)) = true
      · rw [if_pos hl]
      · rw [if_neg hl] at hk
        split at hk
        · cases hk
        · split at hk <;> cases hk
  intro j hj
  exact (t_en_spec (fun j => t_lt (c j)) n _ (t_S c n a) rfl (t_S_le c ha).2).2.2.1 _ (by omega) (by rw [← he]; omega)
theorem t_knw {a : Nat} (ha : a ≤ n) (hn : n ≤ 700) : f_X12_knownWord (nI (t_K c n a)) (nI (t_E c n a - t_S c n a)) (t_mw c n a) = some (if t_W c n a = 18 then -1 else nI (t_W c n a)) := by
  have hE := t_E_le c ha
  have hKle : t_K c n a ≤ 4 := by
    unfold t_K
    repeat' split
    all_goals omega
  unfold f_X12_knownWord
  by_cases hk : t_K c n a = 1
  · rw [if_pos (by rw [hk]; rfl)]
    by_cases hl : t_E c n a - t_S c n a ≤ 7
    · rw [if_pos (show nI (t_E c n a - t_S c n a) ≤ 7 from nI_le (b := 7) hl (by omega))]
      have hmw : t_mw c n a = lN (t_wc c (t_S c n a) (t_E c n a - t_S c n a)) := by
        unfold t_mw
        rw [if_pos hk, show min (t_E c n a - t_S c n a) 7 = t_E c n a - t_S c n a by omega]
      have hlt : t_wc c (t_S c n a) (t_E c n a - t_S c n a) < 2 ^ 35 := by
        have h1 := t_wc_lt (c := c) (s := t_S c n a) (t_E c n a - t_S c n a) (t_K1 ha hk)
        have h2 : 32 ^ (t_E c n a - t_S c n a) ≤ 32 ^ 7 := Nat.pow_le_pow_right (by decide) hl
        have h3 : (32 : Nat) ^ 7 = 2 ^ 35 := by decide
        omega
      have hW : t_W c n a = (g_ff (fun k => t_wl k == t_wc c (t_S c n a) (t_E c n a - t_S c n a)) 18 0).getD 18 := by
        unfold t_W
        rw [if_pos ⟨hk, hl⟩]
      rw [hmw, hW]
      generalize t_wc c (t_S c n a) (t_E c n a - t_S c n a) = x at hlt
      have r := g_run (z := fun _ => none) (b := f_X12_knownWord_21 (lN x)) (ρ := Int32) (fun G b => G (nI b)) (fun b => 18 - b) (fun b r => b ≤ 18 → r = some (g_oi (g_ff (fun k => t_wl k == x) (18 - b) b))) (fun G b ih hb => by
        show f_X12_knownWord_21 (lN x) G (nI b) = _
        unfold f_X12_knownWord_21
        rcases Nat.lt_or_ge b 18 with hl | hl
        · have go := ih (b + 1) (by show 18 - (b + 1) < 18 - b; omega) (by omega)
          have e1 : 18 - b = (18 - (b + 1)) + 1 := by omega
          obtain ⟨t1, t2, -⟩ := t_wl_tab b hl
          rw [if_neg (show ¬ (18 : Int32) ≤ nI b from nI_ge (b := 18) hl (by omega)), t2, gs_b1_s, nI_1, e1, g_ff]
          by_cases e : t_wl b = x
          · rw [if_pos (by rw [e]; exact (lg_cmp_eq _ _).mpr rfl), if_pos (by simp [e])]
            rfl
          · rw [if_neg (fun z => e (l_inj (by omega) (by omega) ((lg_cmp_eq _ _).mp z))), if_neg (by simp [e])]
            exact go
        · have e : b = 18 := by omega
          subst e
          rw [if_pos (by decide)]
          rfl) gs_fuel 0 (by show 18 - 0 < gs_fuel; rw [gs_fuel_eq]; omega) (by omega)
      have r' : gs_it (fun _ => none) (f_X12_knownWord_21 (lN x)) gs_fuel (nI 0) = some (g_oi (g_ff (fun k => t_wl k == x) 18 0)) := r
      rw [nI_0] at r'
      rw [r']
      cases hf : g_ff (fun k => t_wl k == x) 18 0 with
      | none => rfl
      | some k =>
        have := (g_ff_some 18 0 hf).2.1
        show some (nI k) = some (if k = 18 then -1 else nI k)
        rw [if_neg (by omega)]
    · have hW : t_W c n a = 18 := by
        unfold t_W
        rw [if_neg (fun z => hl z.2)]
      rw [if_neg (show ¬ nI (t_E c n a - t_S c n a) ≤ 7 from nI_ge (a := 7) (by omega) (by omega)), hW, if_pos rfl]
  · have hW : t_W c n a = 18 := by
      unfold t_W
      rw [if_neg (fun z => hk z.1)]
    rw [if_neg (n_ne 1 1 rfl (by omega) (by decide) hk), hW, if_pos rfl]
theorem t_isWord (hn : n ≤ 700) (h : ∀ j, j < n → c j < 256 ∧ tC j = sb_b (c j)) {a i : Nat} (ha : a ≤ n) (hi : i < 18) : f_X8_isWord i (nI (t_E c n a)) (nI (t_K c n a)) (nI (t_S c n a)) tC = some (if t_W c n a = t_ix i then 1 else 0) := by
  have hE := t_E_le c ha
  have hKle : t_K c n a ≤ 4 := by
    unfold t_K
    repeat' split
    all_goals omega
  obtain ⟨x1, x2, x3, x4, x5⟩ := t_ix_tab i hi
  unfold f_X8_isWord
  by_cases hk : t_K c n a = 1
  · have hlet := t_K1 (c := c) ha hk
    rw [if_pos (by rw [hk]; rfl), x4, gs_b1_s, pk_sub hE.1]
    by_cases hl : t_E c n a - t_S c n a = gs_sl i
    · have hW : t_W c n a = (g_ff (fun k => t_wl k == t_wc c (t_S c n a) (gs_sl i)) 18 0).getD 18 := by
        unfold t_W
        rw [if_pos ⟨hk, by omega⟩, hl]
      have hEn := hE.2.1
      rw [if_pos (by rw [hl])]
      have r := g_run (z := fun _ => none) (b := f_X8_isWord_28 i (nI (t_S c n a)) tC) (ρ := Int32) (fun G b => G (nI b)) (fun b => gs_sl i - b) (fun b r => b ≤ gs_sl i → r = some (if g_ff (fun j => !(c (t_S c n a + j) == t_ch i j)) (gs_sl i - b) b = none then 1 else 0)) (fun G b ih hb => by
        show f_X8_isWord_28 i (nI (t_S c n a)) tC G (nI b) = _
        unfold f_X8_isWord_28
        rw [x4, gs_b1_s]
        rcases Nat.lt_or_ge b (gs_sl i) with hlt | hge
        · have go := ih (b + 1) (by show gs_sl i - (b + 1) < gs_sl i - b; omega) (by omega)
          have e1 : gs_sl i - b = (gs_sl i - (b + 1)) + 1 := by omega
          obtain ⟨y1, y2, y3⟩ := x5 b hlt
          obtain ⟨g1, g2⟩ := h (t_S c n a + b) (by omega)
          rw [if_neg (nI_ge hlt (by omega)), nI_add, gs_gd_t (gs_in_nI (by omega) (by decide)), y3, gs_b1_s, nI_clamp (by omega), g2, (t_tabW _ g1 (hlet b (by omega))).2.2.2, nI_1, e1, g_ff]
          by_cases e : c (t_S c n a + b) = t_ch i b
          · rw [if_pos (by rw [e]), if_neg (c := (!(c (t_S c n a + b) == t_ch i b)) = true) (by simp [e])]
            exact go
          · rw [if_neg (fun z => e ((nI_eq (by omega) (by omega)).mp z)), if_pos (c := (!(c (t_S c n a + b) == t_ch i b)) = true) (by simp [e]), if_neg (Option.some_ne_none _)]
        · have e : b = gs_sl i := by omega
          rw [e, if_pos (nI_le (Nat.le_refl _) (by omega)), Nat.sub_self]
          rfl) gs_fuel 0 (by show gs_sl i - 0 < gs_fuel; rw [gs_fuel_eq]; omega) (Nat.zero_le _)
      have r' : gs_it (fun _ => none) (f_X8_isWord_28 i (nI (t_S c n a)) tC) gs_fuel (nI 0) = some (if g_ff (fun j => !(c (t_S c n a + j) == t_ch i j)) (gs_sl i) 0 = none then 1 else 0) := r
      rw [nI_0] at r'
      rw [r']
      have hiff : g_ff (fun j => !(c (t_S c n a + j) == t_ch i j)) (gs_sl i) 0 = none ↔ t_W c n a = t_ix i := by
        rw [g_ff_ct, g_ct_0, hW]
        constructor
        · intro q
          have ewl : t_wc c (t_S c n a) (gs_sl i) = t_wl (t_ix i) := by
            unfold t_wl
            rw [x2]
            exact t_wc_cong _ (fun j hj => by
              have := q j hj
              rw [Nat.zero_add]
              simpa using this)
          rw [g_ff_at 18 0 (t_ix i) (Nat.zero_le _) (by omega) (by rw [ewl]; simp) (fun j _ hj => by
            have := (t_wl_tab (t_ix i) x1).2.2 j hj
            rw [ewl]
            simpa using this)]
          rfl
        · intro q j hj
          cases hf : g_ff (fun k => t_wl k == t_wc c (t_S c n a) (gs_sl i)) 18 0 with
          | none =>
            rw [hf] at q
            have : 18 = t_ix i := q
            omega
          | some k =>
            rw [hf] at q
            have hk2 : k = t_ix i := q
            have := (g_ff_some 18 0 hf).2.2
            rw [hk2] at this
            have hw : t_wl (t_ix i) = t_wc c (t_S c n a) (gs_sl i) := by simpa using this
            unfold t_wl at hw
            rw [x2] at hw
            have := (t_wc_inj _ _ (fun j hj => by rw [Nat.zero_add]; exact (x5 j hj).1) (fun j hj => hlet j (by omega)) hw).2 j hj
            rw [Nat.zero_add] at this
            simp [this]
      by_cases q : t_W c n a = t_ix i
      · rw [if_pos (hiff.mpr q), if_pos q]
      · rw [if_neg (fun z => q (hiff.mp z)), if_neg q]
    · rw [if_neg (fun z => hl ((nI_eq (by omega) (by omega)).mp z)), if_neg]
      intro q
      unfold t_W at q
      by_cases h7 : t_E c n a - t_S c n a ≤ 7
      · rw [if_pos ⟨hk, h7⟩] at q
        cases hf : g_ff (fun k => t_wl k == t_wc c (t_S c n a) (t_E c n a - t_S c n a)) 18 0 with
        | none =>
          rw [hf] at q
          have : 18 = t_ix i := q
          omega
        | some k =>
          rw [hf] at q
          have hk2 : k = t_ix i := q
          have := (g_ff_some 18 0 hf).2.2
          rw [hk2] at this
          have hw : t_wl (t_ix i) = t_wc c (t_S c n a) (t_E c n a - t_S c n a) := by simpa using this
          unfold t_wl at hw
          rw [x2] at hw
          exact hl (t_wc_inj _ _ (fun j hj => by rw [Nat.zero_add]; exact (x5 j hj).1) hlet hw).1.symm
      · rw [if_neg (fun z => h7 z.2)] at q
        omega
  · have hW : t_W c n a = 18 := by
      unfold t_W
      rw [if_neg (fun z => hk z.1)]
    rw [if_neg (n_ne 1 1 rfl (by omega) (by decide) hk), hW, if_neg (by omega)]
/-- the token is this sign -/
def t_G (c : Nat → Nat) (n a w : Nat) : Bool := t_K c n a == 3 && c (t_S c n a) == w
theorem t_K_le (c : Nat → Nat) (n a : Nat) : t_K c n a ≤ 4 := by
  unfold t_K
  repeat' split
  all_goals omega
theorem t_K3 {a : Nat} (hk : t_K c n a = 3) : t_S c n a < n := by
  unfold t_K at hk
  split at hk
  · cases hk
  · omega
theorem t_signC (h : ∀ j, j < n → c j < 256) {a w : Nat} {va si : Int32} (hv : t_Cv c n a va si) (hw : w < 256) : f_X8_isSign (nI w) (nI (t_K c n a)) si = some (if t_G c n a w = true then 1 else 0) := by
  unfold f_X8_isSign t_G
  have hK := t_K_le c n a
  by_cases hk : t_K c n a = 3
  · have hs := h _ (t_K3 hk)
    rw [if_pos (by rw [hk]; rfl), hv.2 hk]
    by_cases e : c (t_S c n a) = w
    · rw [if_pos (by rw [e]), if_pos (by simp [hk, e])]
    · rw [if_neg (fun z => e ((nI_eq (by omega) (by omega)).mp z)), if_neg (by simp [e])]
  · rw [if_neg (n_ne 3 3 rfl (by omega) (by decide) hk), if_neg (by simp [hk])]
theorem t_signM (h : ∀ j, j < n → c j < 256) {a w : Nat} (hw : w < 256) : f_X12_isSign (nI w) (nI (t_K c n a)) (t_ms c n a) = some (if t_G c n a w = true then 1 else 0) := by
  unfold f_X12_isSign t_G
  have hK := t_K_le c n a
  by_cases hk : t_K c n a = 3
  · have hlt := t_K3 hk
    have hs := h _ hlt
    rw [if_pos (by rw [hk]; rfl)]
    unfold t_ms
    rw [if_pos hlt]
    by_cases e : c (t_S c n a) = w
    · rw [if_pos (by rw [e]), if_pos (by simp [hk, e])]
    · rw [if_neg (fun z => e ((nI_eq (by omega) (by omega)).mp z)), if_neg (by simp [e])]
  · rw [if_neg (n_ne 3 3 rfl (by omega) (by decide) hk), if_neg (by simp [hk])]
end WD
