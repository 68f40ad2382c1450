/-! ===== pure rows: the whole day, in class and model ===== -/
def g_w (w : Bool) : Int32 := if w then 1 else 0
def g_fC (rF : Option (List Nat)) (mem : Nat → Nat) (W : Nat → Int32) (P S : Nat) (len : Nat → Nat) (w : Bool) (C : Nat → Int32) : (Nat → Int32) × Nat :=
  if w then (C, 0) else g_fold (fun p => g_fold (g_c1 rF mem W P len p) S 0) P 0 (C, 0)
def m_fM (rF : Option (List Nat)) (MW : Nat → Int32) (P S : Nat) (len : Nat → Nat) (b : Nat) (w : Bool) (M : Nat → Int32) : (Nat → Int32) × Nat :=
  if w then (M, 0) else g_fold (fun p => g_fold (m_c1 rF MW P len b p) S 0) P 0 (M, 0)
def g_tC (rF rL : Option (List Nat)) (mem : Nat → Nat) (W : Nat → Int32) (P S : Nat) (len : Nat → Nat) (w : Bool) (C : Nat → Int32) : (Nat → Int32) × Nat :=
  g_fold (g_t1 rL W len) P 0 ((g_fC rF mem W P S len w C).1, 0)
def m_tM (rF rL : Option (List Nat)) (MW : Nat → Int32) (P S : Nat) (len : Nat → Nat) (b : Nat) (w : Bool) (M : Nat → Int32) : (Nat → Int32) × Nat :=
  g_fold (m_t1 rL MW len b) P 0 ((m_fM rF MW P S len b w M).1, 0)
/-- behind a day: the row, how many learnt, how many notes were forgotten -/
def g_dC (rF rL : Option (List Nat)) (mem : Nat → Nat) (W : Nat → Int32) (P S : Nat) (len : Nat → Nat) (w : Bool) (C : Nat → Int32) : (Nat → Int32) × Nat × Nat :=
  (upd (g_tC rF rL mem W P S len w C).1 0 ((g_tC rF rL mem W P S len w C).1 0 + 1), (g_tC rF rL mem W P S len w C).2, (g_fC rF mem W P S len w C).2)
def m_dM (rF rL : Option (List Nat)) (MW : Nat → Int32) (P S : Nat) (len : Nat → Nat) (b : Nat) (w : Bool) (M : Nat → Int32) : (Nat → Int32) × Nat × Nat :=
  (upd (m_tM rF rL MW P S len b w M).1 b ((m_tM rF rL MW P S len b w M).1 b + 1), (m_tM rF rL MW P S len b w M).2, (m_fM rF MW P S len b w M).2)
theorem g_R.skC {P S D : Nat} {len mem : Nat → Nat} {C M : Nat → Int32} {b : Nat} (h : g_R P S D len mem C M b) : g_skC P S C := by
  intro p hp
  rcases h.2.2.1 p hp with q | ⟨s, o, hs, ho, e, -⟩
  · exact Or.inl q.1
  · exact Or.inr ⟨s, o, hs, ho, e⟩
theorem g_R.skM {P S D : Nat} {len mem : Nat → Nat} {C M : Nat → Int32} {b : Nat} (h : g_R P S D len mem C M b) : m_skM P S b M := by
  intro p hp
  rcases h.2.2.1 p hp with q | ⟨s, o, hs, ho, -, e⟩
  · exact Or.inl q.2.1
  · exact Or.inr ⟨s, o, hs, ho, e⟩
/-- the same said, the same number, nothing else changed -/
def g_rel (P S D : Nat) (len mem : Nat → Nat) (b : Nat) (M0 : Nat → Int32) (x y : (Nat → Int32) × Nat) : Prop :=
  g_R P S D len mem x.1 y.1 b ∧ x.2 = y.2 ∧ ∀ j, (j < b ∨ b + 372 ≤ j) → y.1 j = M0 j
section RS
variable {P S D b : Nat} {len mem : Nat → Nat} {rF rL : Option (List Nat)} {W MW M0 : Nat → Int32}
theorem g_rel.c1 (hP : P ≤ 7) (hS : S ≤ 5) (hW : ∀ p, p < P → W p = MW p) (hn : ∀ s, s < S → len s ≤ 8) {p s : Nat} (hp : p < P) (hs : s < S) {x y : (Nat → Int32) × Nat} (h : g_rel P S D len mem b M0 x y) : g_rel P S D len mem b M0 (g_c1 rF mem W P len p s x) (m_c1 rF MW P len b p s y) := by
  obtain ⟨h1, h2, h3⟩ := h
  have hH := (h1.2.1 p hp s hs).H
  have ho := g_oCM rF h1 hp hs (hW p hp) (hn s hs)
  by_cases e : g_H x.1 p s = true
  · have e1 : g_c1 rF mem W P len p s x = (g_cf x.1 p s (g_oC rF (nI (mem p)) W P (len s) x.1 p s), x.2 + g_on (g_oC rF (nI (mem p)) W P (len s) x.1 p s)) := if_pos e
    have e2 : m_c1 rF MW P len b p s y = (g_mf y.1 b p s (len s) (g_oM rF MW P (len s) y.1 b p s), y.2 + g_on (g_oM rF MW P (len s) y.1 b p s)) := if_pos (by rw [← hH]; exact e)
    rw [e1, e2, ho, h2]
    refine ⟨h1.forget hP hS hp hs (hn s hs) e _ (fun k hk => g_oM_lt hk), rfl, fun j hj => ?_⟩
    have := hn s hs
    rw [← h3 j hj]
    exact g_mf_out _ (fun k hk => by have := g_oM_lt hk; omega) (by omega) (by omega)
  · have e1 : g_c1 rF mem W P len p s x = x := if_neg e
    have e2 : m_c1 rF MW P len b p s y = y := if_neg (by rw [← hH]; exact e)
    rw [e1, e2]
    exact ⟨h1, h2, h3⟩
theorem g_rel.t1 (hP : P ≤ 7) (hS : S ≤ 5) (hW : ∀ p, p < P → W p = MW p) (hn : ∀ s, s < S → 1 ≤ len s ∧ len s ≤ 8) {p : Nat} (hp : p < P) {x y : (Nat → Int32) × Nat} (h : g_rel P S D len mem b M0 x y) : g_rel P S D len mem b M0 (g_t1 rL W len p x) (m_t1 rL MW len b p y) := by
  obtain ⟨h1, h2, h3⟩ := h
  unfold g_t1 m_t1
  rcases h1.2.2.1 p hp with ⟨q1, q2, q3⟩ | ⟨s, o, hs, ho, e1, e2, e3⟩
  · rw [if_pos q1, if_pos q2]
    exact ⟨h1, h2, h3⟩
  · have hn' := hn s hs
    rw [e1, e2, e3, if_neg (g_m1 (by omega)), if_neg (g_m1 (by omega)), nI_clamp (by omega), nI_clamp (by omega), nI_clamp (by omega), show (7 * s + o) / 7 = s by omega, show (7 * s + o) % 7 = o by omega]
    unfold g_t1s m_t1s
    rw [(h1.2.1 o ho s hs).rd hn'.2, (h1.2.1 p hp s hs).H]
    by_cases e : (m_rd y.1 b (len s) o s && !m_H y.1 b p s) = true
    · rw [if_pos e, if_pos e, h2]
      have hl := h1.learn (W := W) (MW := MW) rL hP hS hp hs ho hn'.1 hn'.2 (hW p hp)
      refine ⟨hl.seek hP hS hp (fun j hj => pk_un hj) (fun j hj k1 k2 => (pk_un k2).trans (pk_un k1)) (Or.inl ⟨pk_us, ?_, pk_us⟩), rfl, fun j hj => ?_⟩
      · show upd (upd _ (b + 351 + p) (-1)) (b + 358 + p) (-1) (b + 351 + p) = -1
        rw [pk_un (by omega), pk_us]
      · show upd (upd (g_ml rL MW (len s) y.1 b p s o) (b + 351 + p) (-1)) (b + 358 + p) (-1) j = M0 j
        rw [pk_un (by omega), pk_un (by omega), g_ml_out hn'.2 (by omega) (by omega) (by omega)]
        exact h3 j hj
    · rw [if_neg e, if_neg e]
      exact ⟨h1, h2, h3⟩
end RS
section RD
variable {P S D b : Nat} {len mem : Nat → Nat} {rF rL : Option (List Nat)} {L Fs W CC ML MF MW CM mems : Nat → Int32} {fF fT lF lT fA lA pr pm : Int32}
theorem g_rel.f (hT : g_T P S len rF rL L Fs W CC fF fT lF lT ML MF MW CM fA lA) {C M : Nat → Int32} (h : g_R P S D len mem C M b) (w : Bool) : g_rel P S D len mem b M (g_fC rF mem W P S len w C) (m_fM rF MW P S len b w M) := by
  obtain ⟨hP, hS, hlen, -, hW, -, -⟩ := hT
  have h0 : g_rel P S D len mem b M (C, 0) (M, 0) := ⟨h, rfl, fun _ _ => rfl⟩
  unfold g_fC m_fM
  cases w with
  | true => exact h0
  | false =>
    refine g_fold_rel (g_rel P S D len mem b M) P 0 _ _ (fun p _ hp x y hxy => ?_) h0
    exact g_fold_rel (g_rel P S D len mem b M) S 0 _ _ (fun s _ hs x y hxy => hxy.c1 hP hS hW (fun s hs => (hlen s hs).2.2.2) (by omega) (by omega)) hxy
/-- a day keeps it -/
theorem d_R (hT : g_T P S len rF rL L Fs W CC fF fT lF lT ML MF MW CM fA lA) {C M : Nat → Int32} (h : g_R P S D len mem C M b) (w : Bool) : g_R P S (D + 1) len mem (g_dC rF rL mem W P S len w C).1 (m_dM rF rL MW P S len b w M).1 b ∧ (g_dC rF rL mem W P S len w C).2 = (m_dM rF rL MW P S len b w M).2 ∧ ∀ j, (j < b ∨ b + 372 ≤ j) → (m_dM rF rL MW P S len b w M).1 j = M j := by
  obtain ⟨f1, f2, f3⟩ := g_rel.f hT h w
  obtain ⟨hP, hS, hlen, -, hW, -, -⟩ := hT
  have h0 : g_rel P S D len mem b M ((g_fC rF mem W P S len w C).1, 0) ((m_fM rF MW P S len b w M).1, 0) := ⟨f1, rfl, f3⟩
  have ht : g_rel P S D len mem b M (g_tC rF rL mem W P S len w C) (m_tM rF rL MW P S len b w M) :=
    g_fold_rel (g_rel P S D len mem b M) P 0 _ _ (fun p _ hp x y hxy => hxy.t1 hP hS hW (fun s hs => (hlen s hs).2.2) (by omega)) h0
  obtain ⟨t1, t2, t3⟩ := ht
  refine ⟨t1.day hP hS, Prod.ext t2 f2, fun j hj => ?_⟩
  show upd _ b _ j = M j
  rw [pk_un (by omega)]
  exact t3 j hj
/-- class: a day -/
theorem d_C (hT : g_T P S len rF rL L Fs W CC fF fT lF lT ML MF MW CM fA lA) (hm : ∀ p, p < P → f_X1_memoryOf (nI p) pr pm mems = some (nI (mem p))) {C M : Nat → Int32} (h : g_R P S D len mem C M b) (w : Bool) (tg fo : Int32) (v t : Nat → Int32) :
    ∃ v' t', f_X1_passDay (g_w w) tg fo pr pm (nI S) (nI P) fF fT lF lT L mems W CC v t C = some (tg + nI (g_dC rF rL mem W P S len w C).2.1, fo + nI (g_dC rF rL mem W P S len w C).2.2, v', t', (g_dC rF rL mem W P S len w C).1) := by
  have hf := (g_rel.f hT h w).1.skC
  obtain ⟨hP, hS, hlen, -, hW, hrF, hrL⟩ := hT
  obtain ⟨⟨d, hd, d1, d2⟩, -, -, hm9⟩ := id h
  have fin : ∀ (v t : Nat → Int32), ∃ v' t', f_X1_passDay_62 tg (fo + nI (g_fC rF mem W P S len w C).2) (nI P) lF lT L W CC v t (g_fC rF mem W P S len w C).1 = some (tg + nI (g_dC rF rL mem W P S len w C).2.1, fo + nI (g_dC rF rL mem W P S len w C).2.2, v', t', (g_dC rF rL mem W P S len w C).1) := by
    intro v t
    obtain ⟨v', t', e⟩ := d_teachC (tg0 := tg) (W := W) hP hS (fun s hs => ⟨(hlen s hs).1, (hlen s hs).2.2.2⟩) hrL ((g_fC rF mem W P S len w C).1, 0) hf v t
    have e' : f_X1_teachSeekers tg (nI P) lF lT L W CC v t (g_fC rF mem W P S len w C).1 = some (tg + nI (g_tC rF rL mem W P S len w C).2, v', t', (g_tC rF rL mem W P S len w C).1) := by
      refine Eq.trans ?_ e
      show _ = f_X1_teachSeekers (tg + nI 0) (nI P) lF lT L W CC v t (g_fC rF mem W P S len w C).1
      rw [nI_0, g_add0]
    unfold f_X1_passDay_62
    rw [e', g_b4_s, g_nextDay, gs_b1_s]
    exact ⟨v', t', rfl⟩
  unfold f_X1_passDay
  cases w with
  | false =>
    obtain ⟨v1, t1, e⟩ := d_outC (tg := tg) (fo0 := fo) (lF := lF) (lT := lT) (W := W) hP hS (fun s hs => ⟨(hlen s hs).1, (hlen s hs).2.2.2⟩) hrF (fun p hp => ⟨hm p hp, (hm9 p hp).2⟩) (fun (v_t_forgotten' : Int32) (r_t_reckoner_values' : Nat → Int32) (r_t_reckoner_stack' : Nat → Int32) (r_p1_row' : Nat → Int32) => f_X1_passDay_62 tg v_t_forgotten' (nI P) lF lT L W CC r_t_reckoner_values' r_t_reckoner_stack' r_p1_row') (C, 0) d1 v t
    rw [nI_0, g_add0] at e
    obtain ⟨v2, t2, e2⟩ := fin v1 t1
    exact ⟨v2, t2, e.trans e2⟩
  | true =>
    rw [show gs_fuel = 19999 + 1 from rfl, gs_it_s]
    generalize gs_it _ _ 19999 = K
    unfold f_X1_passDay_2
    rw [if_neg (by decide)]
    have := fin v t
    rw [show (g_fC rF mem W P S len true C).2 = 0 from rfl, nI_0, g_add0] at this
    exact this
/-- model: a day -/
theorem d_M (hT : g_T P S len rF rL L Fs W CC fF fT lF lT ML MF MW CM fA lA) (hb : b ≤ 372) {C M : Nat → Int32} (h : g_R P S D len mem C M b) (w : Bool) (ln fn : Int32) (u q : Nat → Int32) :
    ∃ u' q', f_X12_dayGoes (nI b) (nI S) (nI P) fA lA (g_w w) ln fn ML MW CM M u q = some (nI (m_dM rF rL MW P S len b w M).2.1, nI (m_dM rF rL MW P S len b w M).2.2, (m_dM rF rL MW P S len b w M).1, u', q') := by
  have hf := (g_rel.f hT h w).1.skM
  obtain ⟨hP, hS, hlen, -, hW, hrF, hrL⟩ := hT
  obtain ⟨-, -, -, hm9⟩ := id h
  have fin : ∀ (u q : Nat → Int32), ∃ u' q', f_X12_dayGoes_66 (nI b) (nI P) lA 0 (nI (m_fM rF MW P S len b w M).2) ML MW CM (m_fM rF MW P S len b w M).1 u q = some (nI (m_dM rF rL MW P S len b w M).2.1, nI (m_dM rF rL MW P S len b w M).2.2, (m_dM rF rL MW P S len b w M).1, u', q') := by
    intro u q
    unfold f_X12_dayGoes_66
    obtain ⟨u', q', e⟩ := d_teachM (MW := MW) (fn := nI (m_fM rF MW P S len b w M).2) hb hP hS (fun s hs => ⟨(hlen s hs).2.1, (hlen s hs).2.2.2⟩) hrL (fun (v_t_learntNow' : Int32) (r_t_rows' : Nat → Int32) (r_t_told' : Nat → Int32) (r_t_pile' : Nat → Int32) => f_X12_dayGoes_179 (nI b) v_t_learntNow' (nI (m_fM rF MW P S len b w M).2) r_t_rows' r_t_told' r_t_pile') ((m_fM rF MW P S len b w M).1, 0) hf u q
    rw [nI_0] at e
    refine ⟨u', q', e.trans ?_⟩
    show f_X12_dayGoes_179 (nI b) (nI (m_tM rF rL MW P S len b w M).2) (nI (m_fM rF MW P S len b w M).2) (m_tM rF rL MW P S len b w M).1 u' q' = _
    unfold f_X12_dayGoes_179
    rw [g_add0, gs_gd_t (gs_in_nI (by omega) (by decide)), gs_gd_t (gs_in_nI (by omega) (by decide)), nI_clamp (by omega)]
    rfl
  unfold f_X12_dayGoes
  cases w with
  | false =>
    obtain ⟨u1, q1, e⟩ := d_outM (lA := lA) (ln := 0) (MW := MW) (mem := mem) hb hP hS (fun s hs => ⟨(hlen s hs).2.1, (hlen s hs).2.2.2⟩) hrF (fun p hp => (hm9 p hp).2) (fun (v_t_forgottenNow' : Int32) (r_t_rows' : Nat → Int32) (r_t_told' : Nat → Int32) (r_t_pile' : Nat → Int32) => f_X12_dayGoes_66 (nI b) (nI P) lA 0 v_t_forgottenNow' ML MW CM r_t_rows' r_t_told' r_t_pile') (M, 0) (fun p hp => (hm9 p hp).1) u q
    rw [nI_0] at e
    obtain ⟨u2, q2, e2⟩ := fin u1 q1
    exact ⟨u2, q2, e.trans e2⟩
  | true =>
    rw [show gs_fuel = 19999 + 1 from rfl, gs_it_s]
    generalize gs_it _ _ 19999 = K
    unfold f_X12_dayGoes_12
    have := fin u q
    rw [show (m_fM rF MW P S len b true M).2 = 0 from rfl, nI_0] at this
    split
    · exact this
    · rw [if_neg (by decide)]
      exact this
end RD
