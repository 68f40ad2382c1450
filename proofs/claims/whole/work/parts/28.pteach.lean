/-! ===== pure rows: those who seek learn; the whole day ===== -/
def g_t1s (rL : Option (List Nat)) (W : Nat → Int32) (len : Nat → Nat) (p s o : Nat) (x : (Nat → Int32) × Nat) : (Nat → Int32) × Nat :=
  if (g_rd x.1 (len s) o s && !g_H x.1 p s) = true then (upd (g_cl rL W (len s) x.1 p s o) (1 + p) (-1), x.2 + 1) else x
def g_t1 (rL : Option (List Nat)) (W : Nat → Int32) (len : Nat → Nat) (p : Nat) (x : (Nat → Int32) × Nat) : (Nat → Int32) × Nat :=
  if x.1 (1 + p) = -1 then x else g_t1s rL W len p ((x.1 (1 + p)).toNatClampNeg / 7) ((x.1 (1 + p)).toNatClampNeg % 7) x
def m_t1s (rL : Option (List Nat)) (MW : Nat → Int32) (len : Nat → Nat) (b p s o : Nat) (x : (Nat → Int32) × Nat) : (Nat → Int32) × Nat :=
  if (m_rd x.1 b (len s) o s && !m_H x.1 b p s) = true then (upd (upd (g_ml rL MW (len s) x.1 b p s o) (b + 351 + p) (-1)) (b + 358 + p) (-1), x.2 + 1) else x
def m_t1 (rL : Option (List Nat)) (MW : Nat → Int32) (len : Nat → Nat) (b p : Nat) (x : (Nat → Int32) × Nat) : (Nat → Int32) × Nat :=
  if x.1 (b + 351 + p) = -1 then x else m_t1s rL MW len b p (x.1 (b + 351 + p)).toNatClampNeg (x.1 (b + 358 + p)).toNatClampNeg x
def g_skC (P S : Nat) (C : Nat → Int32) : Prop := ∀ p, p < P → C (1 + p) = -1 ∨ ∃ s o, s < S ∧ o < P ∧ C (1 + p) = nI (7 * s + o)
def m_skM (P S b : Nat) (M : Nat → Int32) : Prop := ∀ p, p < P → M (b + 351 + p) = -1 ∨ ∃ s o, s < S ∧ o < P ∧ M (b + 351 + p) = nI s ∧ M (b + 358 + p) = nI o
theorem g_t1_sk {rL : Option (List Nat)} {W : Nat → Int32} {len : Nat → Nat} {P S p : Nat} (hS : S ≤ 5) {x : (Nat → Int32) × Nat} (h : g_skC P S x.1) (hP : P ≤ 7) : g_skC P S (g_t1 rL W len p x).1 := by
  unfold g_t1
  by_cases h0 : x.1 (1 + p) = -1
  · rw [if_pos h0]; exact h
  · rw [if_neg h0]
    unfold g_t1s
    split
    · intro p' hp'
      by_cases e : p' = p
      · rw [e]; exact Or.inl pk_us
      · have : (upd (g_cl rL W (len ((x.1 (1 + p)).toNatClampNeg / 7)) x.1 p ((x.1 (1 + p)).toNatClampNeg / 7) ((x.1 (1 + p)).toNatClampNeg % 7)) (1 + p) (-1)) (1 + p') = x.1 (1 + p') := by
          rw [pk_un (by omega)]
          unfold g_cl
          rw [pk_un (by omega), pk_un (by omega)]
        simp only [this]
        exact h p' hp'
    · exact h
theorem m_t1_sk {rL : Option (List Nat)} {MW : Nat → Int32} {len : Nat → Nat} {P S b p : Nat} {x : (Nat → Int32) × Nat} (h : m_skM P S b x.1) (hP : P ≤ 7) (hS : S ≤ 5) (hp : p < P) (hn : ∀ s, s < S → len s ≤ 8) : m_skM P S b (m_t1 rL MW len b p x).1 := by
  unfold m_t1
  by_cases h0 : x.1 (b + 351 + p) = -1
  · rw [if_pos h0]; exact h
  · rw [if_neg h0]
    rcases h p hp with q | ⟨s, o, hs, ho, e1, e2⟩
    · exact absurd q h0
    · rw [e1, e2, nI_clamp (by omega), nI_clamp (by omega)]
      unfold m_t1s
      split
      · intro p' hp'
        have hn' := hn s hs
        by_cases e : p' = p
        · rw [e]
          refine Or.inl ?_
          show upd (upd (g_ml rL MW (len s) x.1 b p s o) (b + 351 + p) (-1)) (b + 358 + p) (-1) (b + 351 + p) = -1
          rw [pk_un (by omega), pk_us]
        · have e3 : upd (upd (g_ml rL MW (len s) x.1 b p s o) (b + 351 + p) (-1)) (b + 358 + p) (-1) (b + 351 + p') = x.1 (b + 351 + p') := by
            rw [pk_un (by omega), pk_un (by omega), g_ml_out hn' (by omega) (by omega) (by omega)]
          have e4 : upd (upd (g_ml rL MW (len s) x.1 b p s o) (b + 351 + p) (-1)) (b + 358 + p) (-1) (b + 358 + p') = x.1 (b + 358 + p') := by
            rw [pk_un (by omega), pk_un (by omega), g_ml_out hn' (by omega) (by omega) (by omega)]
          show upd (upd (g_ml rL MW (len s) x.1 b p s o) (b + 351 + p) (-1)) (b + 358 + p) (-1) (b + 351 + p') = -1 ∨ ∃ s' o', s' < S ∧ o' < P ∧ upd (upd (g_ml rL MW (len s) x.1 b p s o) (b + 351 + p) (-1)) (b + 358 + p) (-1) (b + 351 + p') = nI s' ∧ upd (upd (g_ml rL MW (len s) x.1 b p s o) (b + 351 + p) (-1)) (b + 358 + p) (-1) (b + 358 + p') = nI o'
          rw [e3, e4]
          exact h p' hp'
      · exact h
theorem g_ct_mk0 (g : Nat → Bool) (n : Nat) : g_ct g n = 0 ↔ g_mk g n = 0 := g_ct_0.trans g_mk_0.symm
section DT
variable {L W CC CM : Nat → Int32} {lF lT lA tg0 : Int32} {rL : Option (List Nat)} {P S : Nat} {len : Nat → Nat}
/-- class: those who seek learn -/
theorem d_teachC (hP : P ≤ 7) (hS : S ≤ 5) (hl : ∀ s, s < S → L s = nI (len s) ∧ len s ≤ 8) (hr : g_rule g_VL CC lF lT CM lA rL) (x : (Nat → Int32) × Nat) (hsk : g_skC P S x.1) (v t : Nat → Int32) :
    ∃ v' t', f_X1_teachSeekers (tg0 + nI x.2) (nI P) lF lT L W CC v t x.1 = some (tg0 + nI (g_fold (g_t1 rL W len) P 0 x).2, v', t', (g_fold (g_t1 rL W len) P 0 x).1) := by
  unfold f_X1_teachSeekers
  have h := g_run (z := fun _ _ _ _ _ => none) (b := f_X1_teachSeekers_2 (nI P) lF lT L W CC) (ρ := Int32 × (Nat → Int32) × (Nat → Int32) × (Nat → Int32)) (σ := Nat × ((Nat → Int32) × Nat) × (Nat → Int32) × (Nat → Int32)) (fun K y => K (nI y.1) (tg0 + nI y.2.1.2) y.2.2.1 y.2.2.2 y.2.1.1) (fun y => P - y.1)
    (fun y r => y.1 ≤ P → g_skC P S y.2.1.1 → ∃ v' t', r = some (tg0 + nI (g_fold (g_t1 rL W len) (P - y.1) y.1 y.2.1).2, v', t', (g_fold (g_t1 rL W len) (P - y.1) y.1 y.2.1).1))
    ?_ gs_fuel (0, x, v, t) (by show P - 0 < gs_fuel; rw [gs_fuel_eq]; omega) (Nat.zero_le _) hsk
  · obtain ⟨v', t', h⟩ := h
    have h' : gs_it (fun _ _ _ _ _ => none) (f_X1_teachSeekers_2 (nI P) lF lT L W CC) gs_fuel (nI 0) (tg0 + nI x.2) v t x.1 = _ := h
    rw [nI_0] at h'
    exact ⟨v', t', h'⟩
  · rintro K ⟨i, x, v, t⟩ ih hi hsk
    replace hi : i ≤ P := hi
    replace hsk : g_skC P S x.1 := hsk
    show ∃ v' t', f_X1_teachSeekers_2 (nI P) lF lT L W CC K (nI i) (tg0 + nI x.2) v t x.1 = some (tg0 + nI (g_fold _ (P - i) i x).2, v', t', (g_fold _ (P - i) i x).1)
    unfold f_X1_teachSeekers_2
    rcases Nat.lt_or_ge i P with hl2 | hl2
    · obtain ⟨k, hk⟩ : ∃ k, P - i = k + 1 := ⟨P - i - 1, by omega⟩
      have hk' : P - (i + 1) = k := by omega
      have go : ∀ (y : (Nat → Int32) × Nat) (v t : Nat → Int32), g_t1 rL W len i x = y → ∃ v' t', K (nI (i + 1)) (tg0 + nI y.2) v t y.1 = some (tg0 + nI (g_fold (g_t1 rL W len) k (i + 1) (g_t1 rL W len i x)).2, v', t', (g_fold (g_t1 rL W len) k (i + 1) (g_t1 rL W len i x)).1) := by
        intro y v t hy
        rw [← hk']
        have := ih (i + 1, y, v, t) (by show P - (i + 1) < P - i; omega) (by show i + 1 ≤ P; omega) (by show g_skC P S y.1; rw [← hy]; exact g_t1_sk hS hsk hP)
        rw [hy]
        exact this
      rw [if_neg (nI_ge hl2 (by omega)), hk, g_fold, g_seeks (by omega), gs_b1_s, nI_1 i]
      by_cases h0 : x.1 (1 + i) = -1
      · rw [if_pos h0, if_pos rfl]
        exact go x v t (if_pos h0)
      · obtain ⟨s, o, hs, ho, e⟩ := (hsk i hl2).resolve_left h0
        have hls := hl s hs
        have ed : nI (7 * s + o) / 7 = nI s := by
          show nI (7 * s + o) / nI 7 = nI s
          rw [pk_div (by omega) (by omega) (by omega), show (7 * s + o) / 7 = s by omega]
        have er : nI (7 * s + o) - nI (7 * s + o) / 7 * 7 = nI o := by
          show nI (7 * s + o) - nI (7 * s + o) / nI 7 * nI 7 = nI o
          rw [pk_rem (by omega) (by omega) (by omega), show (7 * s + o) % 7 = o by omega]
        have hstep : g_t1 rL W len i x = g_t1s rL W len i s o x := by
          unfold g_t1
          rw [if_neg h0, e, nI_clamp (by omega), show (7 * s + o) / 7 = s by omega, show (7 * s + o) % 7 = o by omega]
        rw [if_neg h0, if_neg (by decide), g_soughtSong (by omega), gs_b1_s, g_soughtOf (by omega), gs_b1_s, if_neg h0, if_neg h0, e, er, ed, g_holdsB (by omega) (by omega), gs_b1_s]
        have no : ∀ q : (g_rd x.1 (len s) o s && !g_H x.1 i s) = false, ∃ v' t', K (nI (i + 1)) (tg0 + nI x.2) v t x.1 = some (tg0 + nI (g_fold (g_t1 rL W len) k (i + 1) (g_t1 rL W len i x)).2, v', t', (g_fold (g_t1 rL W len) k (i + 1) (g_t1 rL W len i x)).1) := by
          intro q
          refine go x v t ?_
          rw [hstep]
          unfold g_t1s
          rw [if_neg (by rw [q]; exact Bool.false_ne_true)]
        by_cases hH : g_H x.1 o s = true
        · rw [if_pos hH, if_neg (by decide), g_notes (by omega) (by omega), gs_b1_s, g_gapsIn1 _ (by omega) hls.1 hls.2, gs_b1_s]
          have hc := g_ct_le (g_nA (x.1 (8 + 5 * o + s))) (len s)
          by_cases hg : g_ct (g_nA (x.1 (8 + 5 * o + s))) (len s) = 0
          · rw [if_pos (by rw [hg]; decide)]
            unfold f_X1_teachSeekers_64
            rw [if_pos rfl, nI_1 i]
            refine no ?_
            have : g_mk (g_nA (x.1 (8 + 5 * o + s))) (len s) = 0 := (g_ct_mk0 _ _).mp hg
            unfold g_rd
            simp [this]
          · rw [if_neg (nI_nle (by omega) (by omega))]
            have hrd : g_rd x.1 (len s) o s = true := by
              have : ¬ g_mk (g_nA (x.1 (8 + 5 * o + s))) (len s) = 0 := fun q => hg ((g_ct_mk0 _ _).mpr q)
              unfold g_rd
              simp [hH, this]
            unfold f_X1_teachSeekers_64
            rw [if_neg (by decide), g_holdsB (by omega) (by omega), gs_b1_s]
            by_cases hHp : g_H x.1 i s = true
            · rw [if_pos hHp, if_neg (by decide), nI_1 i]
              exact no (by simp [hHp])
            · obtain ⟨v1, t1, hlr⟩ := l_learnt (C := x.1) (W := W) (p := i) (o := o) (by omega) (by omega) (by omega) hls.1 hls.2 hr v t
              rw [if_neg hHp, if_pos rfl, hlr, g_b3_s, g_setLearnt (by omega) (by omega), gs_b1_s, g_seekNothing (by omega), gs_b1_s, nI_1 i]
              have := go (upd (g_cl rL W (len s) x.1 i s o) (1 + i) (-1), x.2 + 1) v1 t1 (by rw [hstep]; unfold g_t1s; rw [if_pos (by simp [hrd, hHp])])
              have e2 : tg0 + nI x.2 + 1 = tg0 + nI (x.2 + 1) := by rw [Int32.add_assoc, nI_1]
              rw [e2]
              exact this
        · rw [if_neg hH, if_pos rfl]
          unfold f_X1_teachSeekers_64
          rw [if_pos rfl, nI_1 i]
          exact no (by unfold g_rd; simp [hH])
    · have e : i = P := by omega
      subst e
      rw [if_pos (nI_le (Nat.le_refl _) (by omega)), Nat.sub_self]
      exact ⟨v, t, rfl⟩
end DT
section DU
variable {ML MW CC CM : Nat → Int32} {lF lT lA fn : Int32} {rL : Option (List Nat)} {P S b : Nat} {len : Nat → Nat}
/-- model: those who seek learn -/
theorem d_teachM (hb : b ≤ 372) (hP : P ≤ 7) (hS : S ≤ 5) (hl : ∀ s, s < S → ML s = nI (len s) ∧ len s ≤ 8) (hr : g_rule g_VL CC lF lT CM lA rL) (K179 : Int32 → (Nat → Int32) → (Nat → Int32) → (Nat → Int32) → Option (Int32 × Int32 × (Nat → Int32) × (Nat → Int32) × (Nat → Int32))) (x : (Nat → Int32) × Nat) (hsk : m_skM P S b x.1) (t q : Nat → Int32) :
    ∃ t' q', gs_it (fun _ _ _ _ _ => none) (f_X12_dayGoes_68 (nI b) (nI P) lA fn ML MW CM K179) gs_fuel 0 (nI x.2) x.1 t q = K179 (nI (g_fold (m_t1 rL MW len b) P 0 x).2) (g_fold (m_t1 rL MW len b) P 0 x).1 t' q' := by
  have h := g_run (z := fun _ _ _ _ _ => none) (b := f_X12_dayGoes_68 (nI b) (nI P) lA fn ML MW CM K179) (ρ := Int32 × Int32 × (Nat → Int32) × (Nat → Int32) × (Nat → Int32)) (σ := Nat × ((Nat → Int32) × Nat) × (Nat → Int32) × (Nat → Int32)) (fun K y => K (nI y.1) (nI y.2.1.2) y.2.1.1 y.2.2.1 y.2.2.2) (fun y => P - y.1)
    (fun y r => y.1 ≤ P → m_skM P S b y.2.1.1 → ∃ t' q', r = K179 (nI (g_fold (m_t1 rL MW len b) (P - y.1) y.1 y.2.1).2) (g_fold (m_t1 rL MW len b) (P - y.1) y.1 y.2.1).1 t' q')
    ?_ gs_fuel (0, x, t, q) (by show P - 0 < gs_fuel; rw [gs_fuel_eq]; omega) (Nat.zero_le _) hsk
  · obtain ⟨v', t', h⟩ := h
    have h' : gs_it (fun _ _ _ _ _ => none) (f_X12_dayGoes_68 (nI b) (nI P) lA fn ML MW CM K179) gs_fuel (nI 0) (nI x.2) x.1 t q = _ := h
    rw [nI_0] at h'
    exact ⟨v', t', h'⟩
  · rintro K ⟨i, x, t, q⟩ ih hi hsk
    replace hi : i ≤ P := hi
    replace hsk : m_skM P S b x.1 := hsk
    show ∃ t' q', f_X12_dayGoes_68 (nI b) (nI P) lA fn ML MW CM K179 K (nI i) (nI x.2) x.1 t q = K179 (nI (g_fold _ (P - i) i x).2) (g_fold _ (P - i) i x).1 t' q'
    unfold f_X12_dayGoes_68
    rcases Nat.lt_or_ge i P with hl2 | hl2
    · obtain ⟨k, hk⟩ : ∃ k, P - i = k + 1 := ⟨P - i - 1, by omega⟩
      have hk' : P - (i + 1) = k := by omega
      have e351 : (nI b + 351) + nI i = nI (b + 351 + i) := by
        show (nI b + nI 351) + nI i = _
        rw [nI_add, nI_add]
      have e358 : (nI b + 358) + nI i = nI (b + 358 + i) := by
        show (nI b + nI 358) + nI i = _
        rw [nI_add, nI_add]
      have go : ∀ (y : (Nat → Int32) × Nat) (t q : Nat → Int32), m_t1 rL MW len b i x = y → ∃ t' q', K (nI (i + 1)) (nI y.2) y.1 t q = K179 (nI (g_fold (m_t1 rL MW len b) k (i + 1) (m_t1 rL MW len b i x)).2) (g_fold (m_t1 rL MW len b) k (i + 1) (m_t1 rL MW len b i x)).1 t' q' := by
        intro y t q hy
        rw [← hk']
        have := ih (i + 1, y, t, q) (by show P - (i + 1) < P - i; omega) (by show i + 1 ≤ P; omega) (by show m_skM P S b y.1; rw [← hy]; exact m_t1_sk hsk hP hS hl2 (fun s hs => (hl s hs).2))
        rw [hy]
        exact this
      rw [if_neg (nI_ge hl2 (by omega)), hk, g_fold, e351, e358, gs_gd_t (gs_in_nI (i := b + 351 + i) (by omega) (by decide)), nI_clamp (n := b + 351 + i) (by omega), nI_clamp (n := b + 358 + i) (by omega), nI_1 i]
      by_cases h0 : x.1 (b + 351 + i) = -1
      · rw [if_pos h0]
        exact go x t q (if_pos h0)
      · obtain ⟨s, o, hs, ho, e1, e2⟩ := (hsk i hl2).resolve_left h0
        have hls := hl s hs
        have hstep : m_t1 rL MW len b i x = m_t1s rL MW len b i s o x := by
          unfold m_t1
          rw [if_neg h0, e1, e2, nI_clamp (by omega), nI_clamp (by omega)]
        rw [if_neg h0, e1, e2, m_has hb (by omega) (by omega), gs_b1_s]
        have no : ∀ z : (m_rd x.1 b (len s) o s && !m_H x.1 b i s) = false, ∃ t' q', K (nI (i + 1)) (nI x.2) x.1 t q = K179 (nI (g_fold (m_t1 rL MW len b) k (i + 1) (m_t1 rL MW len b i x)).2) (g_fold (m_t1 rL MW len b) k (i + 1) (m_t1 rL MW len b i x)).1 t' q' := by
          intro z
          refine go x t q ?_
          rw [hstep]
          unfold m_t1s
          rw [if_neg (by rw [z]; exact Bool.false_ne_true)]
        by_cases hHp : m_H x.1 b i s = true
        · rw [if_pos hHp, if_neg (by decide)]
          exact no (by simp [hHp])
        · rw [if_neg hHp, if_pos rfl, gs_gd_t (gs_in_nI (i := b + 358 + i) (by omega) (by decide)), m_canTeach hb (by omega) (by omega) hls.1 hls.2, gs_b1_s]
          by_cases hrd : m_rd x.1 b (len s) o s = true
          · have hpo : i ≠ o := by
              intro e
              subst e
              unfold m_rd at hrd
              simp [hHp] at hrd
            obtain ⟨t1, q1, hlr⟩ := l_learns (M := x.1) (MW := MW) (ln := nI x.2) (p := i) (o := o) hb (by omega) (by omega) (by omega) hpo hls.1 hls.2 hr t q
            rw [if_pos hrd, if_neg (by decide), gs_gd_t (gs_in_nI (i := b + 358 + i) (by omega) (by decide)), hlr, g_b4_s, gs_gd_t (gs_in_nI (i := b + 351 + i) (by omega) (by decide)), gs_gd_t (gs_in_nI (i := b + 358 + i) (by omega) (by decide)), nI_1]
            exact go (upd (upd (g_ml rL MW (len s) x.1 b i s o) (b + 351 + i) (-1)) (b + 358 + i) (-1), x.2 + 1) t1 q1 (by rw [hstep]; unfold m_t1s; rw [if_pos (by simp [hrd, hHp])])
          · rw [if_neg hrd, if_pos rfl]
            exact no (by simp [hrd])
    · have e : i = P := by omega
      subst e
      rw [if_pos (nI_le (Nat.le_refl _) (by omega)), Nat.sub_self]
      exact ⟨t, q, rfl⟩
end DU
