/-! ===== pure rows: the tokens of a text ===== -/
def t_sp (g : Nat → Bool) (n : Nat) : Nat → Nat → Nat
  | 0, a => a
  | f + 1, a => if a < n ∧ g a = true then t_sp g n f (a + 1) else a
/-- the end of the longest row of such from a on -/
def t_en (g : Nat → Bool) (n a : Nat) : Nat := t_sp g n (n - a) a
theorem t_en_t {g : Nat → Bool} {n a : Nat} (h : a < n) (hg : g a = true) : t_en g n a = t_en g n (a + 1) := by
  unfold t_en
  obtain ⟨f, hf⟩ : ∃ f, n - a = f + 1 := ⟨n - a - 1, by omega⟩
  rw [hf, t_sp, if_pos ⟨h, hg⟩, show n - (a + 1) = f by omega]
theorem t_en_f {g : Nat → Bool} {n a : Nat} (hg : g a = false) : t_en g n a = a := by
  unfold t_en
  cases hf : n - a with
  | zero => rfl
  | succ f => rw [t_sp, if_neg (fun z => by rw [hg] at z; exact Bool.false_ne_true z.2)]
theorem t_en_n {g : Nat → Bool} {n a : Nat} (h : n ≤ a) : t_en g n a = a := by
  unfold t_en
  rw [show n - a = 0 by omega]
  rfl
theorem t_en_spec (g : Nat → Bool) (n : Nat) : ∀ (f a : Nat), n - a = f → a ≤ n → a ≤ t_en g n a ∧ t_en g n a ≤ n ∧ (∀ j, a ≤ j → j < t_en g n a → g j = true) ∧ (t_en g n a = n ∨ g (t_en g n a) = false)
  | 0, a, hf, ha => by
    have e : a = n := by omega
    rw [t_en_n (by omega)]
    exact ⟨Nat.le_refl _, ha, fun j h1 h2 => by omega, Or.inl e⟩
  | f + 1, a, hf, ha => by
    cases hg : g a with
    | true =>
      rw [t_en_t (by omega) hg]
      obtain ⟨h1, h2, h3, h4⟩ := t_en_spec g n f (a + 1) (by omega) (by omega)
      refine ⟨by omega, h2, fun j hj1 hj2 => ?_, h4⟩
      rcases Nat.lt_or_ge a j with hl | hl
      · exact h3 j hl hj2
      · have e : j = a := by omega
        rw [e]; exact hg
    | false =>
      rw [t_en_f hg]
      exact ⟨Nat.le_refl _, ha, fun j h1 h2 => by omega, Or.inr hg⟩
def t_bl (c : Nat) : Bool := c == 32 || c == 10
def t_lt (c : Nat) : Bool := decide (97 ≤ c) && decide (c ≤ 122)
def t_dg (c : Nat) : Bool := decide (48 ≤ c) && decide (c ≤ 57)
def t_sg (c : Nat) : Bool := c == 59 || c == 40 || c == 41 || c == 43 || c == 45 || c == 42 || c == 47 || c == 60 || c == 61
def t_S (c : Nat → Nat) (n a : Nat) : Nat := t_en (fun j => t_bl (c j)) n a
def t_K (c : Nat → Nat) (n a : Nat) : Nat := if n ≤ t_S c n a then 0 else if t_lt (c (t_S c n a)) = true then 1 else if t_dg (c (t_S c n a)) = true then 2 else if t_sg (c (t_S c n a)) = true then 3 else 4
def t_E (c : Nat → Nat) (n a : Nat) : Nat := if n ≤ t_S c n a then t_S c n a else if t_lt (c (t_S c n a)) = true then t_en (fun j => t_lt (c j)) n (t_S c n a) else if t_dg (c (t_S c n a)) = true then t_en (fun j => t_dg (c j)) n (t_S c n a) else t_S c n a + 1
def t_val (c : Nat → Nat) (s : Nat) : Nat → Nat
  | 0 => 0
  | k + 1 => t_val c s k * 10 + (c (s + k) - 48)
def t_wc (c : Nat → Nat) (s : Nat) : Nat → Nat
  | 0 => 0
  | k + 1 => 32 * t_wc c s k + (c (s + k) - 96)
def t_V (c : Nat → Nat) (n a : Nat) : Nat := t_val c (t_S c n a) (min (t_E c n a - t_S c n a) 4)
def t_mv (c : Nat → Nat) (n a : Nat) : Int32 := if t_K c n a = 2 then nI (t_V c n a) else 0
def t_ms (c : Nat → Nat) (n a : Nat) : Int32 := if t_S c n a < n then nI (c (t_S c n a)) else 0
def t_mw (c : Nat → Nat) (n a : Nat) : Int64 := if t_K c n a = 1 then lN (t_wc c (t_S c n a) (min (t_E c n a - t_S c n a) 7)) else 0
/-- the class's value and sign, where they count -/
def t_Cv (c : Nat → Nat) (n a : Nat) (va si : Int32) : Prop := (t_K c n a = 2 → va = nI (t_V c n a)) ∧ (t_K c n a = 3 → si = nI (c (t_S c n a)))
theorem t_tab : ∀ c, c < 256 → (sb_b c = 32 ↔ c = 32) ∧ (sb_b c = 10 ↔ c = 10) ∧ (f_X8_isLetter (sb_b c) = some (if t_lt c = true then 1 else 0)) ∧ (f_X8_isDigit (sb_b c) = some (if t_dg c = true then 1 else 0)) := by decide +kernel
theorem t_tabM : ∀ c, c < 256 → (nI c = 32 ↔ c = 32) ∧ (nI c = 10 ↔ c = 10) ∧ (f_X12_isLetter (nI c) = some (if t_lt c = true then 1 else 0)) ∧ (f_X12_isDigit (nI c) = some (if t_dg c = true then 1 else 0)) := by decide +kernel
theorem t_tabD : ∀ c, c < 256 → t_dg c = true → sb_b c - 48 = nI (c - 48) ∧ c - 48 ≤ 9 ∧ 48 ≤ c := by decide +kernel
theorem t_tabW : ∀ c, c < 256 → t_lt c = true → (nI c - 96).toInt64 = lN (c - 96) ∧ c - 96 < 32 ∧ 1 ≤ c - 96 ∧ sb_b c = nI c := by decide +kernel
theorem t_tabS : ∀ c, c < 256 → gs_cf ((((sb_b c) &&& 255).toUInt32 % 65536).toInt32) = true ∧ (((sb_b c) &&& 255).toUInt32 % 65536).toInt32 = nI c := by decide +kernel
theorem t_tabI : ∀ c, c < 256 → (g_ff (fun j => gs_sc 18 j == (nI c).toInt8.toInt32) 9 0 = none ↔ t_sg c = false) := by decide +kernel
theorem t_no : f_X12_isLetter 0 = some 0 ∧ f_X12_isDigit 0 = some 0 := by decide
section TK
variable {c : Nat → Nat} {n : Nat} {tC tM : Nat → Int32}
theorem t_S_le (c : Nat → Nat) {n a : Nat} (ha : a ≤ n) : a ≤ t_S c n a ∧ t_S c n a ≤ n := ⟨(t_en_spec _ n (n - a) a rfl ha).1, (t_en_spec _ n (n - a) a rfl ha).2.1⟩
theorem t_E_le (c : Nat → Nat) {n a : Nat} (ha : a ≤ n) : t_S c n a ≤ t_E c n a ∧ t_E c n a ≤ n ∧ (t_K c n a ≠ 0 → t_S c n a < t_E c n a) := by
  obtain ⟨h1, h2⟩ := t_S_le c ha
  unfold t_E t_K
  by_cases h : n ≤ t_S c n a
  · rw [if_pos h, if_pos h]
    exact ⟨Nat.le_refl _, h2, fun z => absurd rfl z⟩
  · rw [if_neg h, if_neg h]
    by_cases hl : t_lt (c (t_S c n a)) = true
    · rw [if_pos hl, if_pos hl]
      obtain ⟨g1, g2, -, -⟩ := t_en_spec (fun j => t_lt (c j)) n (n - (t_S c n a + 1)) (t_S c n a + 1) rfl (by omega)
      rw [t_en_t (g := fun j => t_lt (c j)) (by omega) hl]
      exact ⟨by omega, g2, fun _ => by omega⟩
    · rw [if_neg hl, if_neg hl]
      by_cases hd : t_dg (c (t_S c n a)) = true
      · rw [if_pos hd, if_pos hd]
        obtain ⟨g1, g2, -, -⟩ := t_en_spec (fun j => t_dg (c j)) n (n - (t_S c n a + 1)) (t_S c n a + 1) rfl (by omega)
        rw [t_en_t (g := fun j => t_dg (c j)) (by omega) hd]
        exact ⟨by omega, g2, fun _ => by omega⟩
      · rw [if_neg hd, if_neg hd]
        exact ⟨by omega, by omega, fun _ => by omega⟩
theorem t_val_le {s : Nat} : ∀ k, (∀ j, j < k → t_dg (c (s + j)) = true) → t_val c s k < 10 ^ k
  | 0, _ => by rw [t_val]; decide
  | k + 1, h => by
    have h1 := t_val_le k (fun j hj => h j (by omega))
    have h2 := h k (by omega)
    unfold t_dg at h2
    simp at h2
    rw [t_val, Nat.pow_succ]
    omega
theorem t_V_le (c : Nat → Nat) {n a : Nat} (ha : a ≤ n) (hk : t_K c n a = 2) : t_V c n a ≤ 9999 := by
  have hd : t_dg (c (t_S c n a)) = true ∧ t_E c n a = t_en (fun j => t_dg (c j)) n (t_S c n a) := by
    unfold t_K at hk
    unfold t_E
    by_cases h : n ≤ t_S c n a
    · rw [if_pos h] at hk; cases hk
    · rw [if_neg h] at hk ⊢
      by_cases hl : t_lt (c (t_S c n a)) = true
      · rw [if_pos hl] at hk; cases hk
      · rw [if_neg hl] at hk ⊢
        by_cases hd : t_dg (c (t_S c n a)) = true
        · rw [if_pos hd]; exact ⟨hd, rfl⟩
        · rw [if_neg hd] at hk
          split at hk <;> cases hk
  have hs := (t_en_spec (fun j => t_dg (c j)) n _ (t_S c n a) rfl (t_S_le c ha).2).2.2.1
  unfold t_V
  have := t_val_le (c := c) (s := t_S c n a) (min (t_E c n a - t_S c n a) 4) (fun j hj => hs (t_S c n a + j) (by omega) (by rw [← hd.2]; omega))
  have h4 : 10 ^ (min (t_E c n a - t_S c n a) 4) ≤ 10 ^ 4 := Nat.pow_le_pow_right (by decide) (Nat.min_le_right _ _)
  omega
/-- blanks are gone by -/
theorem t_skipC (hn : n ≤ 700) (h : ∀ j, j < n → c j < 256 ∧ tC j = sb_b (c j)) (ki st va si : Int32) (K : Int32 → Option (Int32 × Int32 × Int32 × Int32 × Int32)) {a : Nat} (ha : a ≤ n) : gs_it (fun _ => none) (f_X8_next_9 (nI n) ki st va si tC K) gs_fuel (nI a) = K (nI (t_S c n a)) := by
  refine g_run (z := fun _ => none) (b := f_X8_next_9 (nI n) ki st va si tC K) (fun G b => G (nI b)) (fun b => n - b) (fun b r => b ≤ n → t_S c n b = t_S c n a → r = K (nI (t_S c n a))) (fun G b ih hb he => ?_) gs_fuel a (by show n - a < gs_fuel; rw [gs_fuel_eq]; omega) ha rfl
  show f_X8_next_9 (nI n) ki st va si tC K G (nI b) = _
  unfold f_X8_next_9
  rcases Nat.lt_or_ge b n with hl | hl
  · obtain ⟨h1, h2⟩ := h b hl
    have ht := t_tab (c b) h1
    rw [if_neg (nI_ge hl (by omega)), gs_gd_t (gs_in_nI (by omega) (by decide)), gs_gd_t (gs_in_nI (by omega) (by decide)), nI_clamp (by omega), h2, nI_1]
    have go : t_bl (c b) = true → G (nI (b + 1)) = K (nI (t_S c n a)) := fun z => ih (b + 1) (by show n - (b + 1) < n - b; omega) (by omega) (by rw [← he]; exact (t_en_t (g := fun j => t_bl (c j)) hl z).symm)
    by_cases c1 : c b = 32
    · rw [if_pos (ht.1.mpr c1)]
      exact go (by unfold t_bl; rw [c1]; rfl)
    · rw [if_neg (fun z => c1 (ht.1.mp z))]
      by_cases c2 : c b = 10
      · rw [if_pos (ht.2.1.mpr c2)]
        exact go (by unfold t_bl; rw [c2]; rfl)
      · rw [if_neg (fun z => c2 (ht.2.1.mp z)), ← he]
        unfold t_S
        rw [t_en_f (g := fun j => t_bl (c j)) (a := b) (by unfold t_bl; simp [c1, c2])]
  · rw [if_pos (nI_le hl (by omega)), ← he]
    unfold t_S
    rw [t_en_n hl]
theorem t_byteAt (hn : n ≤ 700) (h : ∀ j, j < n → c j < 256 ∧ tM j = nI (c j)) {a : Nat} (ha : a < n) : f_X12_byteAt (nI a) (nI n) tM = some (nI (c a)) := by
  unfold f_X12_byteAt
  rw [if_neg (nI_ge ha (by omega)), gs_gd_t (gs_in_nI (by omega) (by decide)), nI_clamp (by omega), (h a ha).2]
theorem t_byteN (hn : n ≤ 700) : f_X12_byteAt (nI n) (nI n) tM = some 0 := by
  unfold f_X12_byteAt
  rw [if_pos (nI_le (Nat.le_refl _) (by omega))]
theorem t_skipM (hn : n ≤ 700) (h : ∀ j, j < n → c j < 256 ∧ tM j = nI (c j)) (K : Int32 → Option (Int32 × Int32 × Int32 × Int32 × Int32 × Int32 × Int64)) {a : Nat} (ha : a ≤ n) : gs_it (fun _ => none) (f_X12_goes_0 (nI n) tM K) gs_fuel (nI a) = K (nI (t_S c n a)) := by
  refine g_run (z := fun _ => none) (b := f_X12_goes_0 (nI n) tM K) (fun G b => G (nI b)) (fun b => n - b) (fun b r => b ≤ n → t_S c n b = t_S c n a → r = K (nI (t_S c n a))) (fun G b ih hb he => ?_) gs_fuel a (by show n - a < gs_fuel; rw [gs_fuel_eq]; omega) ha rfl
  show f_X12_goes_0 (nI n) tM K G (nI b) = _
  unfold f_X12_goes_0
  rcases Nat.lt_or_ge b n with hl | hl
  · have h1 := (h b hl).1
    have ht := t_tabM (c b) h1
    rw [if_neg (nI_ge hl (by omega)), t_byteAt hn h hl, gs_b1_s, gs_b1_s, nI_1]
    have go : t_bl (c b) = true → G (nI (b + 1)) = K (nI (t_S c n a)) := fun z => ih (b + 1) (by show n - (b + 1) < n - b; omega) (by omega) (by rw [← he]; exact (t_en_t (g := fun j => t_bl (c j)) hl z).symm)
    by_cases c1 : c b = 32
    · rw [if_pos (ht.1.mpr c1)]
      exact go (by unfold t_bl; rw [c1]; rfl)
    · rw [if_neg (fun z => c1 (ht.1.mp z))]
      by_cases c2 : c b = 10
      · rw [if_pos (ht.2.1.mpr c2)]
        exact go (by unfold t_bl; rw [c2]; rfl)
      · rw [if_neg (fun z => c2 (ht.2.1.mp z)), ← he]
        unfold t_S
        rw [t_en_f (g := fun j => t_bl (c j)) (a := b) (by unfold t_bl; simp [c1, c2])]
  · rw [if_pos (nI_le hl (by omega)), ← he]
    unfold t_S
    rw [t_en_n hl]
/-- a word is gone by -/
theorem t_wordC (hn : n ≤ 700) (h : ∀ j, j < n → c j < 256 ∧ tC j = sb_b (c j)) (ki : Int32) {a : Nat} (ha : a ≤ n) : f_X8_takeWord (nI n) (nI a) ki tC = some (nI (t_en (fun j => t_lt (c j)) n a), 1) := by
  unfold f_X8_takeWord
  refine g_run (z := fun _ => none) (b := f_X8_takeWord_5 (nI n) 1 tC) (fun G b => G (nI b)) (fun b => n - b) (fun b r => b ≤ n → t_en (fun j => t_lt (c j)) n b = t_en (fun j => t_lt (c j)) n a → r = some (nI (t_en (fun j => t_lt (c j)) n a), 1)) (fun G b ih hb he => ?_) gs_fuel a (by show n - a < gs_fuel; rw [gs_fuel_eq]; omega) ha rfl
  show f_X8_takeWord_5 (nI n) 1 tC G (nI b) = _
  unfold f_X8_takeWord_5
  rcases Nat.lt_or_ge b n with hl | hl
  · obtain ⟨h1, h2⟩ := h b hl
    rw [if_neg (nI_ge hl (by omega)), gs_gd_t (gs_in_nI (by omega) (by decide)), nI_clamp (by omega), h2, (t_tab (c b) h1).2.2.1, gs_b1_s, nI_1]
    by_cases c1 : t_lt (c b) = true
    · rw [if_pos c1, if_neg n10]
      exact ih (b + 1) (by show n - (b + 1) < n - b; omega) (by omega) (by rw [← he]; exact (t_en_t (g := fun j => t_lt (c j)) hl c1).symm)
    · rw [if_neg c1, if_pos rfl, ← he, t_en_f (g := fun j => t_lt (c j)) (a := b) (Bool.eq_false_iff.mpr c1)]
  · rw [if_pos (nI_le hl (by omega)), ← he, t_en_n hl]
/-- a number is gone by -/
theorem t_numC (hn : n ≤ 700) (h : ∀ j, j < n → c j < 256 ∧ tC j = sb_b (c j)) (ki va : Int32) {a : Nat} (ha : a ≤ n) : f_X8_takeNumber (nI n) (nI a) ki (nI a) va tC = some (nI (t_en (fun j => t_dg (c j)) n a), 2, nI (t_val c a (min (t_en (fun j => t_dg (c j)) n a - a) 4))) := by
  unfold f_X8_takeNumber
  have r := g_run (z := fun _ _ => none) (b := f_X8_takeNumber_10 (nI n) 2 (nI a) tC) (fun G b => G (nI b) (nI (t_val c a (min (b - a) 4)))) (fun b => n - b) (fun b r => a ≤ b → b ≤ n → t_en (fun j => t_dg (c j)) n b = t_en (fun j => t_dg (c j)) n a → r = some (nI (t_en (fun j => t_dg (c j)) n a), 2, nI (t_val c a (min (t_en (fun j => t_dg (c j)) n a - a) 4)))) (fun G b ih hab hb he => by
    show f_X8_takeNumber_10 (nI n) 2 (nI a) tC G (nI b) (nI (t_val c a (min (b - a) 4))) = _
    unfold f_X8_takeNumber_10
    have stop : (some (nI b, (2 : Int32), nI (t_val c a (min (b - a) 4))) : Option (Int32 × Int32 × Int32)) = some (nI (t_en (fun j => t_dg (c j)) n b), 2, nI (t_val c a (min (t_en (fun j => t_dg (c j)) n b - a) 4))) → some (nI b, (2 : Int32), nI (t_val c a (min (b - a) 4))) = some (nI (t_en (fun j => t_dg (c j)) n a), (2 : Int32), nI (t_val c a (min (t_en (fun j => t_dg (c j)) n a - a) 4))) := fun z => by rw [z, he]
    rcases Nat.lt_or_ge b n with hl | hl
    · obtain ⟨h1, h2⟩ := h b hl
      rw [if_neg (nI_ge hl (by omega)), gs_gd_t (gs_in_nI (by omega) (by decide)), nI_clamp (by omega), h2, (t_tab (c b) h1).2.2.2, gs_b1_s, nI_1, pk_sub hab]
      by_cases c1 : t_dg (c b) = true
      · have go := ih (b + 1) (by show n - (b + 1) < n - b; omega) (by omega) (by omega) (by rw [← he]; exact (t_en_t (g := fun j => t_dg (c j)) hl c1).symm)
        rw [if_pos c1, if_neg n10]
        by_cases c2 : 4 ≤ b - a
        · rw [if_pos (show (4 : Int32) ≤ nI (b - a) from nI_le (a := 4) c2 (by omega))]
          try dsimp only at go
          rw [show min (b + 1 - a) 4 = min (b - a) 4 by omega] at go
          exact go
        · have hd := t_tabD (c b) h1 c1
          rw [if_neg (show ¬ (4 : Int32) ≤ nI (b - a) from nI_ge (b := 4) (by omega) (by omega)), gs_gd_t (gs_in_nI (by omega) (by decide)), hd.1]
          try dsimp only at go
          rw [show min (b + 1 - a) 4 = (b - a) + 1 by omega, t_val, show a + (b - a) = b by omega] at go
          rw [show min (b - a) 4 = b - a by omega]
          have e : nI (t_val c a (b - a)) * 10 + nI (c b - 48) = nI (t_val c a (b - a) * 10 + (c b - 48)) := by
            show nI (t_val c a (b - a)) * nI 10 + nI (c b - 48) = _
            rw [pk_mul, nI_add]
          rw [e]
          exact go
      · rw [if_neg c1, if_pos rfl]
        exact stop (by rw [t_en_f (g := fun j => t_dg (c j)) (a := b) (Bool.eq_false_iff.mpr c1)])
    · rw [if_pos (nI_le hl (by omega))]
      exact stop (by rw [t_en_n hl])) gs_fuel a (by show n - a < gs_fuel; rw [gs_fuel_eq]; omega) (Nat.le_refl _) ha rfl
  have r' : gs_it (fun _ _ => none) (f_X8_takeNumber_10 (nI n) 2 (nI a) tC) gs_fuel (nI a) (nI (t_val c a (min (a - a) 4))) = _ := r
  rw [Nat.sub_self] at r'
  exact r'
end TK
