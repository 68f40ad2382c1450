/-! ===== pure rows: a day ===== -/
def g_on : Option Nat → Nat
  | none => 0
  | some _ => 1
theorem g_fo_on (f : Int32) (c : Nat) (o : Option Nat) : g_fo (f + nI c) o = f + nI (c + g_on o) := by
  cases o with
  | none => rfl
  | some k =>
    show f + nI c + 1 = f + nI (c + 1)
    rw [Int32.add_assoc, nI_1]
def g_fold {α : Type} (f : Nat → α → α) : Nat → Nat → α → α
  | 0, _, a => a
  | k + 1, i, a => g_fold f k (i + 1) (f i a)
theorem g_fold_rel {α β : Type} {f : Nat → α → α} {h : Nat → β → β} (Rel : α → β → Prop) : ∀ (k i : Nat) (a : α) (b : β), (∀ j, i ≤ j → j < i + k → ∀ a b, Rel a b → Rel (f j a) (h j b)) → Rel a b → Rel (g_fold f k i a) (g_fold h k i b)
  | 0, _, _, _, _, hr => hr
  | k + 1, i, a, b, hs, hr => g_fold_rel Rel k (i + 1) (f i a) (h i b) (fun j h1 h2 => hs j (by omega) (by omega)) (hs i (Nat.le_refl _) (by omega) a b hr)
theorem g_fold_inv {α : Type} {f : Nat → α → α} (I : α → Prop) : ∀ (k i : Nat) (a : α), (∀ j, i ≤ j → j < i + k → ∀ a, I a → I (f j a)) → I a → I (g_fold f k i a)
  | 0, _, _, _, hr => hr
  | k + 1, i, a, hs, hr => g_fold_inv I k (i + 1) (f i a) (fun j h1 h2 => hs j (by omega) (by omega)) (hs i (Nat.le_refl _) (by omega) a hr)
def g_c1 (rl : Option (List Nat)) (mem : Nat → Nat) (W : Nat → Int32) (P : Nat) (len : Nat → Nat) (p s : Nat) (x : (Nat → Int32) × Nat) : (Nat → Int32) × Nat :=
  if g_H x.1 p s = true then (g_cf x.1 p s (g_oC rl (nI (mem p)) W P (len s) x.1 p s), x.2 + g_on (g_oC rl (nI (mem p)) W P (len s) x.1 p s)) else x
def m_c1 (rl : Option (List Nat)) (MW : Nat → Int32) (P : Nat) (len : Nat → Nat) (b p s : Nat) (x : (Nat → Int32) × Nat) : (Nat → Int32) × Nat :=
  if m_H x.1 b p s = true then (g_mf x.1 b p s (len s) (g_oM rl MW P (len s) x.1 b p s), x.2 + g_on (g_oM rl MW P (len s) x.1 b p s)) else x
theorem g_cf_at {C : Nat → Int32} {p s j : Nat} (o : Option Nat) (h : j ≠ 8 + 5 * p + s) : g_cf C p s o j = C j := by
  cases o with
  | none => rfl
  | some k => exact pk_un h
theorem g_c1_at {rl : Option (List Nat)} {mem : Nat → Nat} {W : Nat → Int32} {P : Nat} {len : Nat → Nat} {p s j : Nat} {x : (Nat → Int32) × Nat} (h : j < 8) : (g_c1 rl mem W P len p s x).1 j = x.1 j := by
  unfold g_c1
  split
  · exact g_cf_at _ (by omega)
  · rfl
theorem m_c1_at {rl : Option (List Nat)} {MW : Nat → Int32} {P : Nat} {len : Nat → Nat} {b p s j : Nat} {x : (Nat → Int32) × Nat} (hn : len s ≤ 8) (h1 : j < b + (1 + 40 * p + 8 * s) ∨ b + (1 + 40 * p + 8 * s) + 8 ≤ j) (h2 : j ≠ b + 281 + 5 * p + s) : (m_c1 rl MW P len b p s x).1 j = x.1 j := by
  unfold m_c1
  split
  · exact g_mf_out _ (fun k hk => by have := g_oM_lt hk; omega) h1 h2
  · rfl
section DC
variable {L mems W CC CM : Nat → Int32} {pr pm fF fT lF lT fA lA tg fo0 : Int32} {rF rL : Option (List Nat)} {P S : Nat} {len mem : Nat → Nat}
/-- class: one forgets of all songs -/
theorem d_inC (hP : P ≤ 7) (hS : S ≤ 5) (hl : ∀ s, s < S → L s = nI (len s) ∧ len s ≤ 8) (hr : g_rule g_VF CC fF fT CM fA rF) {p d : Nat} (hp : p < P) (hm : f_X1_memoryOf (nI p) pr pm mems = some (nI (mem p))) (hm9 : mem p ≤ 9) (K56 : Int32 → (Nat → Int32) → (Nat → Int32) → (Nat → Int32) → Option (Int32 × Int32 × (Nat → Int32) × (Nat → Int32) × (Nat → Int32))) (x : (Nat → Int32) × Nat) (hd : x.1 0 = nI d) (v t : Nat → Int32) :
    ∃ v' t', gs_it (fun _ _ _ _ _ => none) (f_X1_passDay_20 0 (nI p) tg pr pm (nI S) (nI P) fF fT lF lT L mems W CC K56) gs_fuel 0 (fo0 + nI x.2) v t x.1 = K56 (fo0 + nI (g_fold (g_c1 rF mem W P len p) S 0 x).2) v' t' (g_fold (g_c1 rF mem W P len p) S 0 x).1 := by
  have h := g_run (z := fun _ _ _ _ _ => none) (b := f_X1_passDay_20 0 (nI p) tg pr pm (nI S) (nI P) fF fT lF lT L mems W CC K56) (ρ := Int32 × Int32 × (Nat → Int32) × (Nat → Int32) × (Nat → Int32)) (σ := Nat × ((Nat → Int32) × Nat) × (Nat → Int32) × (Nat → Int32)) (fun K y => K (nI y.1) (fo0 + nI y.2.1.2) y.2.2.1 y.2.2.2 y.2.1.1) (fun y => S - y.1)
    (fun y r => y.1 ≤ S → y.2.1.1 0 = nI d → ∃ v' t', r = K56 (fo0 + nI (g_fold (g_c1 rF mem W P len p) (S - y.1) y.1 y.2.1).2) v' t' (g_fold (g_c1 rF mem W P len p) (S - y.1) y.1 y.2.1).1)
    ?_ gs_fuel (0, x, v, t) (by show S - 0 < gs_fuel; rw [gs_fuel_eq]; omega) (Nat.zero_le _) hd
  · obtain ⟨v', t', h⟩ := h
    have h' : gs_it (fun _ _ _ _ _ => none) (f_X1_passDay_20 0 (nI p) tg pr pm (nI S) (nI P) fF fT lF lT L mems W CC K56) gs_fuel (nI 0) (fo0 + nI x.2) v t x.1 = _ := h
    rw [nI_0] at h'
    exact ⟨v', t', h'⟩
  · rintro K ⟨i, x, v, t⟩ ih hi hd
    replace hi : i ≤ S := hi
    replace hd : x.1 0 = nI d := hd
    show ∃ v' t', f_X1_passDay_20 0 (nI p) tg pr pm (nI S) (nI P) fF fT lF lT L mems W CC K56 K (nI i) (fo0 + nI x.2) v t x.1 = K56 (fo0 + nI (g_fold _ (S - i) i x).2) v' t' (g_fold _ (S - i) i x).1
    unfold f_X1_passDay_20
    rcases Nat.lt_or_ge i S with hl2 | hl2
    · obtain ⟨k, hk⟩ : ∃ k, S - i = k + 1 := ⟨S - i - 1, by omega⟩
      have hk' : S - (i + 1) = k := by omega
      rw [if_neg (nI_ge hl2 (by omega)), g_holdsB (by omega) (by omega), gs_b1_s, hk, g_fold, nI_1 i]
      by_cases hH : g_H x.1 p i = true
      · have e : g_c1 rF mem W P len p i x = (g_cf x.1 p i (g_oC rF (nI (mem p)) W P (len i) x.1 p i), x.2 + g_on (g_oC rF (nI (mem p)) W P (len i) x.1 p i)) := if_pos hH
        obtain ⟨v1, t1, hf⟩ := d_forgetC (C := x.1) (W := W) (fo := fo0 + nI x.2) (by omega) (by omega) hP (hl i hl2).1 (hl i hl2).2 hm hm9 hd hr v t
        rw [if_pos hH, if_neg (by decide), hf, g_b4_s, g_fo_on, ← hk']
        have := ih (i + 1, g_c1 rF mem W P len p i x, v1, t1) (by show S - (i + 1) < S - i; omega) (by show i + 1 ≤ S; omega) (by show (g_c1 rF mem W P len p i x).1 0 = nI d; rw [g_c1_at (by omega)]; exact hd)
        rw [e] at this ⊢
        exact this
      · have e : g_c1 rF mem W P len p i x = x := if_neg hH
        rw [if_neg hH, if_pos rfl, e, ← hk']
        exact ih (i + 1, x, v, t) (by show S - (i + 1) < S - i; omega) (by show i + 1 ≤ S; omega) hd
    · have e : i = S := by omega
      subst e
      rw [if_pos (nI_le (Nat.le_refl _) (by omega)), Nat.sub_self]
      exact ⟨v, t, rfl⟩
/-- class: all forget -/
theorem d_outC (hP : P ≤ 7) (hS : S ≤ 5) (hl : ∀ s, s < S → L s = nI (len s) ∧ len s ≤ 8) (hr : g_rule g_VF CC fF fT CM fA rF) {d : Nat} (hm : ∀ p, p < P → f_X1_memoryOf (nI p) pr pm mems = some (nI (mem p)) ∧ mem p ≤ 9) (K62 : Int32 → (Nat → Int32) → (Nat → Int32) → (Nat → Int32) → Option (Int32 × Int32 × (Nat → Int32) × (Nat → Int32) × (Nat → Int32))) (x : (Nat → Int32) × Nat) (hd : x.1 0 = nI d) (v t : Nat → Int32) :
    ∃ v' t', gs_it (fun _ _ _ _ _ => none) (f_X1_passDay_2 0 tg pr pm (nI S) (nI P) fF fT lF lT L mems W CC K62) gs_fuel 0 (fo0 + nI x.2) v t x.1 = K62 (fo0 + nI (g_fold (fun p => g_fold (g_c1 rF mem W P len p) S 0) P 0 x).2) v' t' (g_fold (fun p => g_fold (g_c1 rF mem W P len p) S 0) P 0 x).1 := by
  have h := g_run (z := fun _ _ _ _ _ => none) (b := f_X1_passDay_2 0 tg pr pm (nI S) (nI P) fF fT lF lT L mems W CC K62) (ρ := Int32 × Int32 × (Nat → Int32) × (Nat → Int32) × (Nat → Int32)) (σ := Nat × ((Nat → Int32) × Nat) × (Nat → Int32) × (Nat → Int32)) (fun K y => K (nI y.1) (fo0 + nI y.2.1.2) y.2.2.1 y.2.2.2 y.2.1.1) (fun y => P - y.1)
    (fun y r => y.1 ≤ P → y.2.1.1 0 = nI d → ∃ v' t', r = K62 (fo0 + nI (g_fold (fun p => g_fold (g_c1 rF mem W P len p) S 0) (P - y.1) y.1 y.2.1).2) v' t' (g_fold (fun p => g_fold (g_c1 rF mem W P len p) S 0) (P - y.1) y.1 y.2.1).1)
    ?_ gs_fuel (0, x, v, t) (by show P - 0 < gs_fuel; rw [gs_fuel_eq]; omega) (Nat.zero_le _) hd
  · obtain ⟨v', t', h⟩ := h
    have h' : gs_it (fun _ _ _ _ _ => none) (f_X1_passDay_2 0 tg pr pm (nI S) (nI P) fF fT lF lT L mems W CC K62) gs_fuel (nI 0) (fo0 + nI x.2) v t x.1 = _ := h
    rw [nI_0] at h'
    exact ⟨v', t', h'⟩
  · rintro K ⟨i, x, v, t⟩ ih hi hd
    replace hi : i ≤ P := hi
    replace hd : x.1 0 = nI d := hd
    show ∃ v' t', f_X1_passDay_2 0 tg pr pm (nI S) (nI P) fF fT lF lT L mems W CC K62 K (nI i) (fo0 + nI x.2) v t x.1 = K62 (fo0 + nI (g_fold _ (P - i) i x).2) v' t' (g_fold _ (P - i) i x).1
    unfold f_X1_passDay_2
    rw [if_pos rfl]
    rcases Nat.lt_or_ge i P with hl2 | hl2
    · obtain ⟨k, hk⟩ : ∃ k, P - i = k + 1 := ⟨P - i - 1, by omega⟩
      have hk' : P - (i + 1) = k := by omega
      rw [if_neg (nI_ge hl2 (by omega)), hk, g_fold]
      obtain ⟨v1, t1, hin⟩ := d_inC (tg := tg) (fo0 := fo0) (lF := lF) (lT := lT) (W := W) hP hS hl hr hl2 (hm i hl2).1 (hm i hl2).2 (fun (v_t_forgotten' : Int32) (r_t_reckoner_values' : Nat → Int32) (r_t_reckoner_stack' : Nat → Int32) (r_p1_row' : Nat → Int32) => f_X1_passDay_56 (fun (x3' : Int32) (v_t_forgotten' : Int32) (r_t_reckoner_values' : Nat → Int32) (r_t_reckoner_stack' : Nat → Int32) (r_p1_row' : Nat → Int32) => K x3' v_t_forgotten' r_t_reckoner_values' r_t_reckoner_stack' r_p1_row') 0 (nI i) tg v_t_forgotten' pr pm (nI S) (nI P) fF fT lF lT L mems W CC r_t_reckoner_values' r_t_reckoner_stack' r_p1_row') x hd v t
      rw [hin]
      unfold f_X1_passDay_56
      rw [nI_1 i, ← hk']
      exact ih (i + 1, g_fold (g_c1 rF mem W P len i) S 0 x, v1, t1) (by show P - (i + 1) < P - i; omega) (by show i + 1 ≤ P; omega) (g_fold_inv (fun y => y.1 0 = nI d) S 0 x (fun j _ _ a ha => by rw [g_c1_at (by omega)]; exact ha) hd)
    · have e : i = P := by omega
      subst e
      rw [if_pos (nI_le (Nat.le_refl _) (by omega)), Nat.sub_self]
      exact ⟨v, t, rfl⟩
end DC
section DM
variable {ML MW CC CM : Nat → Int32} {fF fT lF lT fA lA ln : Int32} {rF rL : Option (List Nat)} {P S b : Nat} {len mem : Nat → Nat}
/-- model: one forgets of all songs -/
theorem d_inM (hb : b ≤ 372) (hP : P ≤ 7) (hS : S ≤ 5) (hl : ∀ s, s < S → ML s = nI (len s) ∧ len s ≤ 8) (hr : g_rule g_VF CC fF fT CM fA rF) {p : Nat} (hp : p < P) (hm9 : mem p ≤ 9) (K60 : Int32 → (Nat → Int32) → (Nat → Int32) → (Nat → Int32) → Option (Int32 × Int32 × (Nat → Int32) × (Nat → Int32) × (Nat → Int32))) (x : (Nat → Int32) × Nat) (hm : x.1 (b + 365 + p) = nI (mem p)) (t q : Nat → Int32) :
    ∃ t' q', gs_it (fun _ _ _ _ _ => none) (f_X12_dayGoes_29 (nI b) (nI p) (nI S) (nI P) fA lA 0 ln ML MW CM K60) gs_fuel 0 (nI x.2) x.1 t q = K60 (nI (g_fold (m_c1 rF MW P len b p) S 0 x).2) (g_fold (m_c1 rF MW P len b p) S 0 x).1 t' q' := by
  have h := g_run (z := fun _ _ _ _ _ => none) (b := f_X12_dayGoes_29 (nI b) (nI p) (nI S) (nI P) fA lA 0 ln ML MW CM K60) (ρ := Int32 × Int32 × (Nat → Int32) × (Nat → Int32) × (Nat → Int32)) (σ := Nat × ((Nat → Int32) × Nat) × (Nat → Int32) × (Nat → Int32)) (fun K y => K (nI y.1) (nI y.2.1.2) y.2.1.1 y.2.2.1 y.2.2.2) (fun y => S - y.1)
    (fun y r => y.1 ≤ S → y.2.1.1 (b + 365 + p) = nI (mem p) → ∃ t' q', r = K60 (nI (g_fold (m_c1 rF MW P len b p) (S - y.1) y.1 y.2.1).2) (g_fold (m_c1 rF MW P len b p) (S - y.1) y.1 y.2.1).1 t' q')
    ?_ gs_fuel (0, x, t, q) (by show S - 0 < gs_fuel; rw [gs_fuel_eq]; omega) (Nat.zero_le _) hm
  · obtain ⟨v', t', h⟩ := h
    have h' : gs_it (fun _ _ _ _ _ => none) (f_X12_dayGoes_29 (nI b) (nI p) (nI S) (nI P) fA lA 0 ln ML MW CM K60) gs_fuel (nI 0) (nI x.2) x.1 t q = _ := h
    rw [nI_0] at h'
    exact ⟨v', t', h'⟩
  · rintro K ⟨i, x, t, q⟩ ih hi hm
    replace hi : i ≤ S := hi
    replace hm : x.1 (b + 365 + p) = nI (mem p) := hm
    show ∃ t' q', f_X12_dayGoes_29 (nI b) (nI p) (nI S) (nI P) fA lA 0 ln ML MW CM K60 K (nI i) (nI x.2) x.1 t q = K60 (nI (g_fold _ (S - i) i x).2) (g_fold _ (S - i) i x).1 t' q'
    unfold f_X12_dayGoes_29
    rcases Nat.lt_or_ge i S with hl2 | hl2
    · obtain ⟨k, hk⟩ : ∃ k, S - i = k + 1 := ⟨S - i - 1, by omega⟩
      have hk' : S - (i + 1) = k := by omega
      rw [if_neg (nI_ge hl2 (by omega)), m_has hb (by omega) (by omega), gs_b1_s, hk, g_fold, nI_1 i]
      by_cases hH : m_H x.1 b p i = true
      · have e : m_c1 rF MW P len b p i x = (g_mf x.1 b p i (len i) (g_oM rF MW P (len i) x.1 b p i), x.2 + g_on (g_oM rF MW P (len i) x.1 b p i)) := if_pos hH
        obtain ⟨v1, t1, hf⟩ := m_songGoes (M := x.1) (MW := MW) (fo := nI x.2) hb hp hP (by omega) (hl i hl2).1 (hl i hl2).2 hm hm9 hr t q
        have hfo : g_fo (nI x.2) (g_oM rF MW P (len i) x.1 b p i) = nI (x.2 + g_on (g_oM rF MW P (len i) x.1 b p i)) := by
          cases g_oM rF MW P (len i) x.1 b p i with
          | none => rfl
          | some k => exact nI_1 _
        rw [if_pos hH, if_neg (by decide), hf, g_b4_s, hfo, ← hk']
        have := ih (i + 1, m_c1 rF MW P len b p i x, v1, t1) (by show S - (i + 1) < S - i; omega) (by show i + 1 ≤ S; omega) (by show (m_c1 rF MW P len b p i x).1 (b + 365 + p) = nI (mem p); rw [m_c1_at (hl i hl2).2 (by omega) (by omega)]; exact hm)
        rw [e] at this ⊢
        exact this
      · have e : m_c1 rF MW P len b p i x = x := if_neg hH
        rw [if_neg hH, if_pos rfl, e, ← hk']
        exact ih (i + 1, x, t, q) (by show S - (i + 1) < S - i; omega) (by show i + 1 ≤ S; omega) hm
    · have e : i = S := by omega
      subst e
      rw [if_pos (nI_le (Nat.le_refl _) (by omega)), Nat.sub_self]
      exact ⟨t, q, rfl⟩
/-- model: all forget -/
theorem d_outM (hb : b ≤ 372) (hP : P ≤ 7) (hS : S ≤ 5) (hl : ∀ s, s < S → ML s = nI (len s) ∧ len s ≤ 8) (hr : g_rule g_VF CC fF fT CM fA rF) (hm9 : ∀ p, p < P → mem p ≤ 9) (K66 : Int32 → (Nat → Int32) → (Nat → Int32) → (Nat → Int32) → Option (Int32 × Int32 × (Nat → Int32) × (Nat → Int32) × (Nat → Int32))) (x : (Nat → Int32) × Nat) (hm : ∀ p, p < P → x.1 (b + 365 + p) = nI (mem p)) (t q : Nat → Int32) :
    ∃ t' q', gs_it (fun _ _ _ _ _ => none) (f_X12_dayGoes_12 (nI b) (nI S) (nI P) fA lA 0 ln ML MW CM K66) gs_fuel 0 (nI x.2) x.1 t q = K66 (nI (g_fold (fun p => g_fold (m_c1 rF MW P len b p) S 0) P 0 x).2) (g_fold (fun p => g_fold (m_c1 rF MW P len b p) S 0) P 0 x).1 t' q' := by
  have h := g_run (z := fun _ _ _ _ _ => none) (b := f_X12_dayGoes_12 (nI b) (nI S) (nI P) fA lA 0 ln ML MW CM K66) (ρ := Int32 × Int32 × (Nat → Int32) × (Nat → Int32) × (Nat → Int32)) (σ := Nat × ((Nat → Int32) × Nat) × (Nat → Int32) × (Nat → Int32)) (fun K y => K (nI y.1) (nI y.2.1.2) y.2.1.1 y.2.2.1 y.2.2.2) (fun y => P - y.1)
    (fun y r => y.1 ≤ P → (∀ p, p < P → y.2.1.1 (b + 365 + p) = nI (mem p)) → ∃ t' q', r = K66 (nI (g_fold (fun p => g_fold (m_c1 rF MW P len b p) S 0) (P - y.1) y.1 y.2.1).2) (g_fold (fun p => g_fold (m_c1 rF MW P len b p) S 0) (P - y.1) y.1 y.2.1).1 t' q')
    ?_ gs_fuel (0, x, t, q) (by show P - 0 < gs_fuel; rw [gs_fuel_eq]; omega) (Nat.zero_le _) hm
  · obtain ⟨v', t', h⟩ := h
    have h' : gs_it (fun _ _ _ _ _ => none) (f_X12_dayGoes_12 (nI b) (nI S) (nI P) fA lA 0 ln ML MW CM K66) gs_fuel (nI 0) (nI x.2) x.1 t q = _ := h
    rw [nI_0] at h'
    exact ⟨v', t', h'⟩
  · rintro K ⟨i, x, t, q⟩ ih hi hm
    replace hi : i ≤ P := hi
    replace hm : ∀ p, p < P → x.1 (b + 365 + p) = nI (mem p) := hm
    show ∃ t' q', f_X12_dayGoes_12 (nI b) (nI S) (nI P) fA lA 0 ln ML MW CM K66 K (nI i) (nI x.2) x.1 t q = K66 (nI (g_fold _ (P - i) i x).2) (g_fold _ (P - i) i x).1 t' q'
    unfold f_X12_dayGoes_12
    rcases Nat.lt_or_ge i P with hl2 | hl2
    · obtain ⟨k, hk⟩ : ∃ k, P - i = k + 1 := ⟨P - i - 1, by omega⟩
      have hk' : P - (i + 1) = k := by omega
      rw [if_neg (nI_ge hl2 (by omega)), if_pos rfl, hk, g_fold]
      obtain ⟨v1, t1, hin⟩ := d_inM (lA := lA) (ln := ln) (MW := MW) hb hP hS hl hr hl2 (hm9 i hl2) (fun (v_t_forgottenNow' : Int32) (r_t_rows' : Nat → Int32) (r_t_told' : Nat → Int32) (r_t_pile' : Nat → Int32) => f_X12_dayGoes_60 (fun (x2' : Int32) (v_t_forgottenNow' : Int32) (r_t_rows' : Nat → Int32) (r_t_told' : Nat → Int32) (r_t_pile' : Nat → Int32) => K x2' v_t_forgottenNow' r_t_rows' r_t_told' r_t_pile') (nI b) (nI i) (nI S) (nI P) fA lA 0 ln v_t_forgottenNow' ML MW CM r_t_rows' r_t_told' r_t_pile') x (hm i hl2) t q
      rw [hin]
      unfold f_X12_dayGoes_60
      rw [nI_1 i, ← hk']
      refine ih (i + 1, g_fold (m_c1 rF MW P len b i) S 0 x, v1, t1) (by show P - (i + 1) < P - i; omega) (by show i + 1 ≤ P; omega) ?_
      refine g_fold_inv (fun y => ∀ p, p < P → y.1 (b + 365 + p) = nI (mem p)) S 0 x (fun j _ h2 a ha p hp => ?_) hm
      rw [m_c1_at (hl j (by omega)).2 (by omega) (by omega)]
      exact ha p hp
    · have e : i = P := by omega
      subst e
      rw [if_pos (nI_le (Nat.le_refl _) (by omega)), Nat.sub_self]
      exact ⟨t, q, rfl⟩
end DM
