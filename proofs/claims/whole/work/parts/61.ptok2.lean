/-! ===== pure rows: the tokens of a text, by the model; both go on ===== -/
theorem l_shl5 (w : Nat) : lN w <<< ((5 : Int32).toInt64 &&& 63) = lN (w * 32) := by
  apply Int64.toBitVec_inj.1
  apply BitVec.eq_of_toNat_eq
  have e : (lN w <<< ((5 : Int32).toInt64 &&& 63)).toBitVec = (lN w).toBitVec <<< 5 := by
    rw [Int64.toBitVec_shiftLeft]
    try rfl
  rw [e, BitVec.toNat_shiftLeft]
  show (w % 2 ^ 64) <<< 5 % 2 ^ 64 = (w * 32) % 2 ^ 64
  rw [Nat.shiftLeft_eq]
  omega
theorem l_word {w d : Nat} (hd : d < 32) : (lN w <<< ((5 : Int32).toInt64 &&& 63)) ||| lN d = lN (32 * w + d) := by
  rw [l_shl5, l_or, Nat.mul_comm]
  refine congrArg lN ?_
  exact (Nat.two_pow_add_eq_or_of_lt (i := 5) hd w).symm
section TK2
variable {c : Nat → Nat} {n : Nat} {tC tM : Nat → Int32}
theorem t_byteB (hn : n ≤ 700) (h : ∀ j, j < n → c j < 256 ∧ tM j = nI (c j)) {b : Nat} (hb : b ≤ n) : f_X12_byteAt (nI b) (nI n) tM = some (if b < n then nI (c b) else 0) := by
  rcases Nat.lt_or_ge b n with hl | hl
  · rw [if_pos hl, t_byteAt hn h hl]
  · have e : b = n := by omega
    subst e
    rw [if_neg (Nat.lt_irrefl _), t_byteN hn]
theorem t_numM (hn : n ≤ 700) (h : ∀ j, j < n → c j < 256 ∧ tM j = nI (c j)) (si : Int32) (wo : Int64) (K : Int32 → Int32 → Option (Int32 × Int32 × Int32 × Int32 × Int32 × Int32 × Int64)) {a : Nat} (ha : a ≤ n) : gs_it (fun _ _ => none) (f_X12_goes_187 (nI n) (nI a) si wo tM K) gs_fuel (nI a) 0 = K (nI (t_en (fun j => t_dg (c j)) n a)) (nI (t_val c a (min (t_en (fun j => t_dg (c j)) n a - a) 4))) := by
  have r := g_run (z := fun _ _ => none) (b := f_X12_goes_187 (nI n) (nI a) si wo tM K) (fun G b => G (nI b) (nI (t_val c a (min (b - a) 4)))) (fun b => n - b) (fun b r => a ≤ b → b ≤ n → t_en (fun j => t_dg (c j)) n b = t_en (fun j => t_dg (c j)) n a → r = K (nI (t_en (fun j => t_dg (c j)) n a)) (nI (t_val c a (min (t_en (fun j => t_dg (c j)) n a - a) 4)))) (fun G b ih hab hb he => by
    show f_X12_goes_187 (nI n) (nI a) si wo tM K G (nI b) (nI (t_val c a (min (b - a) 4))) = _
    unfold f_X12_goes_187
    rw [t_byteB hn h hb, gs_b1_s]
    have stop : t_en (fun j => t_dg (c j)) n b = b → K (nI b) (nI (t_val c a (min (b - a) 4))) = K (nI (t_en (fun j => t_dg (c j)) n a)) (nI (t_val c a (min (t_en (fun j => t_dg (c j)) n a - a) 4))) := fun z => by rw [← he, z]
    rcases Nat.lt_or_ge b n with hl | hl
    · have h1 := (h b hl).1
      rw [if_pos hl, (t_tabM (c b) h1).2.2.2, gs_b1_s, gs_b1_s, nI_1, pk_sub hab]
      by_cases c1 : t_dg (c b) = true
      · have go := ih (b + 1) (by show n - (b + 1) < n - b; omega) (by omega) (by omega) (by rw [← he]; exact (t_en_t (g := fun j => t_dg (c j)) hl c1).symm)
        rw [if_pos c1, if_neg n10]
        by_cases c2 : 4 ≤ b - a
        · rw [if_pos (show (4 : Int32) ≤ nI (b - a) from nI_le (a := 4) c2 (by omega))]
          try dsimp only at go
          rw [show min (b + 1 - a) 4 = min (b - a) 4 by omega] at go
          exact go
        · have hd := t_tabD (c b) h1 c1
          rw [if_neg (show ¬ (4 : Int32) ≤ nI (b - a) from nI_ge (b := 4) (by omega) (by omega))]
          try dsimp only at go
          rw [show min (b + 1 - a) 4 = (b - a) + 1 by omega, t_val, show a + (b - a) = b by omega] at go
          rw [show min (b - a) 4 = b - a by omega]
          have e : ((10 : Int32) * nI (t_val c a (b - a)) + nI (c b)) - 48 = nI (t_val c a (b - a) * 10 + (c b - 48)) := by
            show (nI 10 * nI (t_val c a (b - a)) + nI (c b)) - nI 48 = _
            rw [pk_mul, nI_add, pk_sub (by omega)]
            exact congrArg nI (by omega)
          rw [e]
          exact go
      · rw [if_neg c1, if_pos rfl]
        exact stop (t_en_f (g := fun j => t_dg (c j)) (a := b) (Bool.eq_false_iff.mpr c1))
    · rw [if_neg (by omega), t_no.2, gs_b1_s, if_pos rfl]
      exact stop (t_en_n hl)) gs_fuel a (by show n - a < gs_fuel; rw [gs_fuel_eq]; omega) (Nat.le_refl _) ha rfl
  have r' : gs_it (fun _ _ => none) (f_X12_goes_187 (nI n) (nI a) si wo tM K) gs_fuel (nI a) (nI (t_val c a (min (a - a) 4))) = _ := r
  rw [Nat.sub_self] at r'
  exact r'
theorem t_wordM (hn : n ≤ 700) (h : ∀ j, j < n → c j < 256 ∧ tM j = nI (c j)) (va si : Int32) (K : Int32 → Int64 → Option (Int32 × Int32 × Int32 × Int32 × Int32 × Int32 × Int64)) {a : Nat} (ha : a ≤ n) : gs_it (fun _ _ => none) (f_X12_goes_108 (nI n) (nI a) va si tM K) gs_fuel (nI a) 0 = K (nI (t_en (fun j => t_lt (c j)) n a)) (lN (t_wc c a (min (t_en (fun j => t_lt (c j)) n a - a) 7))) := by
  have r := g_run (z := fun _ _ => none) (b := f_X12_goes_108 (nI n) (nI a) va si tM K) (fun G b => G (nI b) (lN (t_wc c a (min (b - a) 7)))) (fun b => n - b) (fun b r => a ≤ b → b ≤ n → t_en (fun j => t_lt (c j)) n b = t_en (fun j => t_lt (c j)) n a → r = K (nI (t_en (fun j => t_lt (c j)) n a)) (lN (t_wc c a (min (t_en (fun j => t_lt (c j)) n a - a) 7)))) (fun G b ih hab hb he => by
    show f_X12_goes_108 (nI n) (nI a) va si tM K G (nI b) (lN (t_wc c a (min (b - a) 7))) = _
    unfold f_X12_goes_108
    rw [t_byteB hn h hb, gs_b1_s]
    have stop : t_en (fun j => t_lt (c j)) n b = b → K (nI b) (lN (t_wc c a (min (b - a) 7))) = K (nI (t_en (fun j => t_lt (c j)) n a)) (lN (t_wc c a (min (t_en (fun j => t_lt (c j)) n a - a) 7))) := fun z => by rw [← he, z]
    rcases Nat.lt_or_ge b n with hl | hl
    · have h1 := (h b hl).1
      rw [if_pos hl, (t_tabM (c b) h1).2.2.1, gs_b1_s, gs_b1_s, nI_1, pk_sub hab]
      by_cases c1 : t_lt (c b) = true
      · have go := ih (b + 1) (by show n - (b + 1) < n - b; omega) (by omega) (by omega) (by rw [← he]; exact (t_en_t (g := fun j => t_lt (c j)) hl c1).symm)
        rw [if_pos c1, if_neg n10]
        by_cases c2 : 7 ≤ b - a
        · rw [if_pos (show (7 : Int32) ≤ nI (b - a) from nI_le (a := 7) c2 (by omega))]
          try dsimp only at go
          rw [show min (b + 1 - a) 7 = min (b - a) 7 by omega] at go
          exact go
        · have hd := t_tabW (c b) h1 c1
          rw [if_neg (show ¬ (7 : Int32) ≤ nI (b - a) from nI_ge (b := 7) (by omega) (by omega)), hd.1, l_word hd.2.1]
          try dsimp only at go
          rw [show min (b + 1 - a) 7 = (b - a) + 1 by omega, t_wc, show a + (b - a) = b by omega] at go
          rw [show min (b - a) 7 = b - a by omega]
          exact go
      · rw [if_neg c1, if_pos rfl]
        exact stop (t_en_f (g := fun j => t_lt (c j)) (a := b) (Bool.eq_false_iff.mpr c1))
    · rw [if_neg (by omega), t_no.1, gs_b1_s, if_pos rfl]
      exact stop (t_en_n hl)) gs_fuel a (by show n - a < gs_fuel; rw [gs_fuel_eq]; omega) (Nat.le_refl _) ha rfl
  have r' : gs_it (fun _ _ => none) (f_X12_goes_108 (nI n) (nI a) va si tM K) gs_fuel (nI a) (lN (t_wc c a (min (a - a) 7))) = _ := r
  rw [Nat.sub_self] at r'
  exact r'
/-- model: it goes on -/
theorem t_goes (hn : n ≤ 700) (h : ∀ j, j < n → c j < 256 ∧ tM j = nI (c j)) (so pl lo va si : Int32) (wo : Int64) {a : Nat} (ha : a ≤ n) : f_X12_goes (nI n) (nI a) so pl lo va si wo tM = some (nI (t_E c n a), nI (t_K c n a), nI (t_S c n a), nI (t_E c n a - t_S c n a), t_mv c n a, t_ms c n a, t_mw c n a) := by
  unfold f_X12_goes
  rw [t_skipM hn h _ ha]
  obtain ⟨hs1, hs2⟩ := t_S_le c ha
  unfold f_X12_goes_50
  rw [t_byteB hn h hs2, gs_b1_s]
  unfold t_mv t_mw t_ms t_V t_K t_E
  generalize t_S c n a = s at hs1 hs2 ⊢
  rcases Nat.lt_or_ge s n with hl | hl
  · have h1 := (h s hl).1
    have hns : ¬ n ≤ s := by omega
    simp only [if_neg hns, if_pos hl]
    rw [if_pos (nI_lt hl (by omega)), (t_tabM (c s) h1).2.2.1, gs_b1_s]
    by_cases c1 : t_lt (c s) = true
    · simp only [if_pos c1]
      rw [if_neg n10, t_wordM hn h _ _ _ hs2]
      unfold f_X12_goes_172
      have hle := (t_en_spec (fun j => t_lt (c j)) n _ s rfl hs2).1
      rw [pk_sub hle]
      try rfl
    · simp only [if_neg c1]
      rw [if_pos trivial, (t_tabM (c s) h1).2.2.2, gs_b1_s]
      by_cases c2 : t_dg (c s) = true
      · simp only [if_pos c2]
        rw [if_neg n10, t_numM hn h _ _ _ hs2]
        unfold f_X12_goes_250
        have hle := (t_en_spec (fun j => t_dg (c j)) n _ s rfl hs2).1
        rw [pk_sub hle]
        try rfl
      · simp only [if_neg c2]
        have e1 : nI s + 1 - nI s = nI (s + 1 - s) := by rw [nI_1, pk_sub (by omega)]
        have key : ∀ x : Int32, f_X12_goes_323 (nI s + 1) (nI s) 0 x 0 = some (nI (s + 1), 3, nI s, nI (s + 1 - s), 0, x, 0) := by
          intro x
          unfold f_X12_goes_323
          rw [e1, nI_1]
        first | rw [if_pos rfl, key, e1, nI_1] | rw [if_pos trivial, key, e1, nI_1]
        have tab : ∀ c, c < 256 → ((nI c = 59 ∨ nI c = 40 ∨ nI c = 41 ∨ nI c = 43 ∨ nI c = 45 ∨ nI c = 42 ∨ nI c = 47 ∨ nI c = 60 ∨ nI c = 61) ↔ t_sg c = true) := by decide +kernel
        have tb := tab (c s) h1
        by_cases c3 : t_sg (c s) = true
        · simp only [if_pos c3]
          have hor := tb.mpr c3
          by_cases d1 : nI (c s) = 59
          · rw [if_pos d1]; rfl
          rw [if_neg d1]
          by_cases d2 : nI (c s) = 40
          · rw [if_pos d2]; rfl
          rw [if_neg d2]
          by_cases d3 : nI (c s) = 41
          · rw [if_pos d3]; rfl
          rw [if_neg d3]
          by_cases d4 : nI (c s) = 43
          · rw [if_pos d4]; rfl
          rw [if_neg d4]
          by_cases d5 : nI (c s) = 45
          · rw [if_pos d5]; rfl
          rw [if_neg d5]
          by_cases d6 : nI (c s) = 42
          · rw [if_pos d6]; rfl
          rw [if_neg d6]
          by_cases d7 : nI (c s) = 47
          · rw [if_pos d7]; rfl
          rw [if_neg d7]
          by_cases d8 : nI (c s) = 60
          · rw [if_pos d8]; rfl
          rw [if_neg d8]
          by_cases d9 : nI (c s) = 61
          · rw [if_pos d9]; rfl
          exact absurd hor (by simp [d1, d2, d3, d4, d5, d6, d7, d8, d9])
        · simp only [if_neg c3]
          have hor : ¬ (nI (c s) = 59 ∨ nI (c s) = 40 ∨ nI (c s) = 41 ∨ nI (c s) = 43 ∨ nI (c s) = 45 ∨ nI (c s) = 42 ∨ nI (c s) = 47 ∨ nI (c s) = 60 ∨ nI (c s) = 61) := fun z => c3 (tb.mp z)
          rw [if_neg (fun z => hor (Or.inl z)), if_neg (fun z => hor (Or.inr (Or.inl z))), if_neg (fun z => hor (Or.inr (Or.inr (Or.inl z)))), if_neg (fun z => hor (Or.inr (Or.inr (Or.inr (Or.inl z))))), if_neg (fun z => hor (Or.inr (Or.inr (Or.inr (Or.inr (Or.inl z)))))), if_neg (fun z => hor (Or.inr (Or.inr (Or.inr (Or.inr (Or.inr (Or.inl z))))))), if_neg (fun z => hor (Or.inr (Or.inr (Or.inr (Or.inr (Or.inr (Or.inr (Or.inl z)))))))), if_neg (fun z => hor (Or.inr (Or.inr (Or.inr (Or.inr (Or.inr (Or.inr (Or.inr (Or.inl z))))))))), if_neg (fun z => hor (Or.inr (Or.inr (Or.inr (Or.inr (Or.inr (Or.inr (Or.inr (Or.inr z)))))))))]
          try rfl
  · have e : s = n := by omega
    subst e
    have hlt : ¬ s < s := Nat.lt_irrefl _
    simp only [if_pos (Nat.le_refl s), if_neg hlt]
    rw [if_neg (nI_nlt (Nat.le_refl _) (by omega)), pk_sub (Nat.le_refl _)]
    try rfl
theorem t_index : ∀ c, c < 256 → f_J0_indexOf_0f7a4 18 (nI c) = some (g_oi (g_ff (fun j => gs_sc 18 j == (nI c).toInt8.toInt32) 9 0)) := by
  intro c hc
  unfold f_J0_indexOf_0f7a4 f_J0_indexOf_7cf53 f_J0_isLatin1_aae02
  rw [if_neg n10, if_pos rfl, gs_b1_s, if_neg n10]
  have hl : f_J0_length_8abf5 18 = some 9 := by decide
  rw [hl, gs_b1_s]
  unfold f_J1_indexOf_4cfef f_J1_canEncode_9a6ad
  rw [if_neg (nI_pos (by omega)), if_neg (show ¬ (255 : Int32) < nI c from nI_nlt (a := 255) (by omega) (by omega)), gs_b1_s, if_neg n10]
  have e9 : (if Int32.ofNat (gs_sl 18) < (9 : Int32) then Int32.ofNat (gs_sl 18) else 9) = nI 9 := by decide
  have e0 : (if (0 : Int32) < 0 then (0 : Int32) else 0) = nI 0 := by decide
  rw [e9, e0, if_pos (by decide)]
  unfold f_J1_indexOfChar_4cfef
  generalize (nI c).toInt8.toInt32 = x
  have r := g_run (z := fun _ => none) (b := f_J1_indexOfChar_4cfef_7 18 (nI 9) x) (ρ := Int32) (fun G b => G (nI b)) (fun b => 9 - b) (fun b r => b ≤ 9 → r = some (g_oi (g_ff (fun j => gs_sc 18 j == x) (9 - b) b))) (fun G b ih hb => by
    show f_J1_indexOfChar_4cfef_7 18 (nI 9) x G (nI b) = _
    unfold f_J1_indexOfChar_4cfef_7
    rcases Nat.lt_or_ge b 9 with hl | hl
    · have go := ih (b + 1) (by show 9 - (b + 1) < 9 - b; omega) (by omega)
      have e1 : 9 - b = (9 - (b + 1)) + 1 := by omega
      have hs : gs_sl 18 = 9 := rfl
      rw [if_neg (nI_ge hl (by omega)), hs, gs_gd_t (gs_in_nI hl (by decide)), nI_clamp (by omega), nI_1, e1, g_ff]
      by_cases e : gs_sc 18 b = x
      · rw [if_pos e, if_pos (by simp [e])]
        try rfl
      · rw [if_neg e, if_neg (by simp [e])]
        exact go
    · have e : b = 9 := by omega
      subst e
      rw [if_pos (by decide)]
      rfl) gs_fuel 0 (by show 9 - 0 < gs_fuel; rw [gs_fuel_eq]; omega) (by omega)
  have r' : gs_it (fun _ => none) (f_J1_indexOfChar_4cfef_7 18 (nI 9) x) gs_fuel (nI 0) = some (g_oi (g_ff (fun j => gs_sc 18 j == x) 9 0)) := r
  rw [r', gs_b1_s, gs_b1_s, gs_b1_s]
/-- class: it goes on -/
theorem t_next (hn : n ≤ 700) (h : ∀ j, j < n → c j < 256 ∧ tC j = sb_b (c j)) {ki : Int32} (hk : ki ≠ 5) (st va si : Int32) {a : Nat} (ha : a ≤ n) : ∃ va' si', f_X8_next (nI n) (nI a) ki st va si tC = some (nI (t_E c n a), nI (t_K c n a), nI (t_S c n a), va', si') ∧ t_Cv c n a va' si' := by
  unfold f_X8_next
  rw [if_neg hk, t_skipC hn h _ _ _ _ _ ha]
  obtain ⟨hs1, hs2⟩ := t_S_le c ha
  unfold f_X8_next_61 t_Cv
  unfold t_V t_K t_E
  generalize t_S c n a = s at hs1 hs2 ⊢
  rcases Nat.lt_or_ge s n with hl | hl
  · obtain ⟨h1, h2⟩ := h s hl
    have hns : ¬ n ≤ s := by omega
    simp only [if_neg hns]
    rw [if_pos (nI_lt hl (by omega)), gs_gd_t (gs_in_nI (by omega) (by decide)), nI_clamp (by omega), h2, (t_tab (c s) h1).2.2.1, gs_b1_s]
    by_cases c1 : t_lt (c s) = true
    · simp only [if_pos c1]
      rw [if_neg n10, t_wordC hn h _ hs2, g_b2_s]
      exact ⟨_, _, rfl, fun z => absurd z (by decide), fun z => absurd z (by decide)⟩
    · simp only [if_neg c1]
      rw [if_pos trivial, gs_gd_t (gs_in_nI (by omega) (by decide)), (t_tab (c s) h1).2.2.2, gs_b1_s]
      by_cases c2 : t_dg (c s) = true
      · simp only [if_pos c2]
        rw [if_neg n10, t_numC hn h _ _ hs2, g_b3_s]
        exact ⟨_, _, rfl, fun _ => rfl, fun z => absurd z (by decide)⟩
      · simp only [if_neg c2]
        first | rw [if_pos rfl] | rw [if_pos trivial]
        unfold f_X8_takeSign
        obtain ⟨s1, s2⟩ := t_tabS (c s) h1
        rw [gs_gd_t (gs_in_nI (by omega) (by decide)), nI_clamp (by omega), h2, gs_gd_t s1, s2, t_index (c s) h1, gs_b1_s, nI_1]
        by_cases c3 : t_sg (c s) = true
        · simp only [if_pos c3]
          cases hf : g_ff (fun j => gs_sc 18 j == (nI (c s)).toInt8.toInt32) 9 0 with
          | none =>
            have := (t_tabI (c s) h1).mp hf
            rw [c3] at this
            cases this
          | some j =>
            have hj := (g_ff_some 9 0 hf).2.1
            have hne : ¬ g_oi (some j) < 0 := nI_pos (by omega)
            rw [if_neg hne, g_b3_s]
            exact ⟨_, _, rfl, fun z => absurd z (by decide), fun _ => rfl⟩
        · simp only [if_neg c3]
          have hf := (t_tabI (c s) h1).mpr (Bool.eq_false_iff.mpr c3)
          rw [hf, if_pos (by decide), g_b3_s]
          exact ⟨_, _, rfl, fun z => absurd z (by decide), fun z => absurd z (by decide)⟩
  · have e : s = n := by omega
    subst e
    simp only [if_pos (Nat.le_refl s)]
    rw [if_neg (nI_nlt (Nat.le_refl _) (by omega))]
    exact ⟨_, _, rfl, fun z => absurd z (by decide), fun z => absurd z (by decide)⟩
end TK2
