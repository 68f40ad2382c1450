/-! ===== pure rows: origin, changes, highest, agreed, common ===== -/
section V3
variable {P S D : Nat} {len mem : Nat → Nat} {C M L ML : Nat → Int32}
def g_sq (ch : Nat → Option Nat) (p : Nat) : Nat → Option Nat
  | 0 => some p
  | i + 1 => ch i
theorem g_sq_s {tc : Nat → Option Nat} {p : Nat} : ∀ (i : Nat), g_sq (g_ch tc p) p (i + 1) = (match g_sq (g_ch tc p) p i with | none => none | some t => tc t)
  | 0 => rfl
  | i + 1 => rfl
theorem v_pig {tc : Nat → Option Nat} {p : Nat} (hp : p < P) (hlt : ∀ i t, g_ch tc p i = some t → t < P) (hall : ∀ j, j < P → g_ch tc p j ≠ none) : g_ch tc p P ≠ none := by
  have hsq : ∀ i, i ≤ P → ∃ t, t < P ∧ g_sq (g_ch tc p) p i = some t := by
    intro i hi
    cases i with
    | zero => exact ⟨p, hp, rfl⟩
    | succ i =>
      cases e : g_ch tc p i with
      | none => exact absurd e (hall i (by omega))
      | some t => exact ⟨t, hlt i t e, e⟩
  have key : ∀ i, i ≤ P + 1 → (∃ a b, a < b ∧ b < i ∧ g_sq (g_ch tc p) p a = g_sq (g_ch tc p) p b) ∨ g_ct (g_vi (g_sq (g_ch tc p) p) i) P = i := by
    intro i
    induction i with
    | zero => intro _; exact Or.inr (g_ct_0.mpr (fun k _ => rfl))
    | succ i ih =>
      intro hi
      rcases ih (by omega) with ⟨a, b, h1, h2, h3⟩ | h
      · exact Or.inl ⟨a, b, h1, by omega, h3⟩
      · obtain ⟨t, ht, e⟩ := hsq i (by omega)
        cases hv : g_vi (g_sq (g_ch tc p) p) i t with
        | true =>
          obtain ⟨j, hj, he⟩ := g_vi_iff.mp hv
          exact Or.inl ⟨j, i, hj, by omega, he.trans e.symm⟩
        | false =>
          right
          have := g_ct_ins hv P
          rw [if_pos ht, h] at this
          refine Eq.trans (g_ct_cong (fun k _ => ?_)) this
          show (g_vi (g_sq (g_ch tc p) p) i k || g_sq (g_ch tc p) p i == some k) = _
          rw [e]
  rcases key (P + 1) (Nat.le_refl _) with ⟨a, b, h1, h2, h3⟩ | h
  · have per : ∀ m, g_sq (g_ch tc p) p (a + m) = g_sq (g_ch tc p) p (b + m) := by
      intro m
      induction m with
      | zero => exact h3
      | succ m ih => rw [← Nat.add_assoc, ← Nat.add_assoc, g_sq_s, g_sq_s, ih]
    have := per (P + 1 - b)
    rw [show b + (P + 1 - b) = P + 1 by omega] at this
    obtain ⟨t, -, e⟩ := hsq (a + (P + 1 - b)) (by omega)
    have e2 : g_ch tc p P = some t := this.symm.trans e
    rw [e2]
    exact Option.some_ne_none t
  · have := g_ct_le (g_vi (g_sq (g_ch tc p) p) (P + 1)) P
    omega
def g_ls (ch : Nat → Option Nat) : Nat → Option Nat
  | 0 => none
  | i + 1 => ch i
theorem g_end_le {ch : Nat → Option Nat} {P i : Nat} (hi : i ≤ P) : g_end ch P i ≤ P := by
  unfold g_end
  cases e : g_ff (fun j => (ch j).isNone) (P - i) i with
  | none => exact Nat.le_refl _
  | some k =>
    have := (g_ff_some _ _ e).2.1
    show k ≤ P
    omega
theorem g_end_lt {ch : Nat → Option Nat} {P i : Nat} (h : g_end ch P i < P) : ch (g_end ch P i) = none := by
  unfold g_end at h ⊢
  cases e : g_ff (fun j => (ch j).isNone) (P - i) i with
  | none => rw [e] at h; exact absurd h (Nat.lt_irrefl _)
  | some k =>
    have := (g_ff_some _ _ e).2.2
    show ch k = none
    simpa using this
theorem g_end_all {ch : Nat → Option Nat} {P : Nat} (h : g_end ch P 0 = P) : ∀ j, j < P → ch j ≠ none := by
  intro j hj q
  unfold g_end at h
  cases e : g_ff (fun j => (ch j).isNone) (P - 0) 0 with
  | none =>
    have := g_ff_none _ _ e j (by omega) (by omega)
    rw [q] at this
    cases this
  | some k =>
    rw [e] at h
    have h2 := (g_ff_some _ _ e).2.1
    have h3 : k = P := h
    omega
theorem v_origin (h : g_R P S D len mem C M 0) (hP : P ≤ 7) (hS : S ≤ 5) {p s : Nat} (hp : p < P) (hs : s < S) : ∃ r, f_X10_origin (nI p) (nI s) (nI P) C = some r ∧ f_X12_origin (nI p) (nI s) (nI P) M = some r := by
  have htc := fun q hq => v_tc (p := q) h hP hq hs
  have hlt : ∀ i t, g_ch (g_tc C s) p i = some t → t < P := g_ch_lt hp (fun q hq => (htc q hq).2.2)
  have hc := g_run (z := fun _ _ _ => none) (b := f_X10_origin_14 (nI s) (nI P) C) (ρ := Int32) (σ := Nat) (fun K i => K (g_oi (g_ls (g_ch (g_tc C s) p) i)) (g_oi (g_ch (g_tc C s) p i)) (nI i)) (fun i => P - i) (fun i r => i ≤ P → r = some (if (g_ch (g_tc C s) p (g_end (g_ch (g_tc C s) p) P i)) = none then g_oi (g_ls (g_ch (g_tc C s) p) (g_end (g_ch (g_tc C s) p) P i)) else -1))
    (fun K i ih hi => by
      show f_X10_origin_14 (nI s) (nI P) C K (g_oi (g_ls (g_ch (g_tc C s) p) i)) (g_oi (g_ch (g_tc C s) p i)) (nI i) = _
      unfold f_X10_origin_14
      rcases Nat.lt_or_ge i P with hl | hl
      · rw [if_neg (nI_ge hl (by omega))]
        cases e : g_ch (g_tc C s) p i with
        | none =>
          rw [g_end_n hl e, if_pos e]
          show (if (-1 : Int32) = -1 then if (-1 : Int32) = -1 then _ else _ else _) = _
          rw [if_pos rfl, if_pos rfl]
        | some t =>
          have ht := hlt i t e
          rw [g_end_s hl e]
          show (if nI t = -1 then _ else gs_b1 (f_X7_teacher (nI t) (nI s) C) fun r6 => K (nI t) r6 (nI i + 1)) = _
          rw [if_neg (g_m1 (by omega)), g_teacher (by omega) (by omega), gs_b1_s, nI_1, (htc t ht).1, ← g_ch_s e]
          have hh := ih (i + 1) (by show P - (i + 1) < P - i; omega) (by omega)
          have e3 : g_oi (g_ls (g_ch (g_tc C s) p) (i + 1)) = nI t := by
            show g_oi (g_ch (g_tc C s) p i) = nI t
            rw [e]
            rfl
          rw [e3] at hh
          exact hh
      · have e : i = P := by omega
        subst e
        rw [if_pos (nI_le (Nat.le_refl _) (by omega)), g_end_P]
        cases e : g_ch (g_tc C s) p i with
        | none => rw [if_pos rfl]; exact if_pos rfl
        | some t =>
          have ht := hlt i t e
          rw [if_neg (Option.some_ne_none t)]
          exact if_neg (g_m1 (by omega))) gs_fuel 0 (by show P - 0 < gs_fuel; rw [gs_fuel_eq]; omega) (Nat.zero_le _)
  have hm := g_run (z := fun _ _ => none) (b := f_X12_origin_5 (nI p) (nI s) (nI P) M (fun (x3' : Int32) (x4' : Int32) => f_X12_origin_36 (nI p) x3' x4')) (ρ := Int32) (σ := Nat) (fun K i => K (g_oi (g_sq (g_ch (g_tc C s) p) p i)) (nI i)) (fun i => P - i) (fun i r => i ≤ P → (∀ j, j < i → g_ch (g_tc C s) p j ≠ none) → r = some (if g_end (g_ch (g_tc C s) p) P i < P then g_oi (g_ls (g_ch (g_tc C s) p) (g_end (g_ch (g_tc C s) p) P i)) else -1))
    (fun K i ih hi hno => by
      show f_X12_origin_5 (nI p) (nI s) (nI P) M _ K (g_oi (g_sq (g_ch (g_tc C s) p) p i)) (nI i) = _
      unfold f_X12_origin_5
      rcases Nat.lt_or_ge i P with hl | hl
      · rw [if_neg (nI_ge hl (by omega))]
        obtain ⟨a, ha, ea, enx⟩ : ∃ a, a < P ∧ g_sq (g_ch (g_tc C s) p) p i = some a ∧ g_tc C s a = g_ch (g_tc C s) p i := by
          cases i with
          | zero => exact ⟨p, hp, rfl, rfl⟩
          | succ j =>
            cases e : g_ch (g_tc C s) p j with
            | none => exact absurd e (hno j (by omega))
            | some t => exact ⟨t, hlt j t e, e, (g_ch_s e).symm⟩
        have h2 := (htc a ha).2.1
        rw [Nat.zero_add, enx] at h2
        rw [ea]
        show (gs_gd (gs_in ((316 + (5 * nI a)) + nI s) 744) <| if (M ((316 + (5 * nI a)) + nI s).toNatClampNeg) = -1 then f_X12_origin_36 (nI p) (nI a) (nI i) else K (M ((316 + (5 * nI a)) + nI s).toNatClampNeg) (nI i + 1)) = _
        rw [m_ixT0, gs_gd_t (gs_in_nI (by omega) (by decide)), nI_clamp (by omega), h2]
        cases e : g_ch (g_tc C s) p i with
        | none =>
          rw [g_end_n hl e, if_pos hl]
          show (if (-1 : Int32) = -1 then _ else _) = _
          rw [if_pos rfl]
          unfold f_X12_origin_36
          cases i with
          | zero =>
            have : a = p := (Option.some.inj ea).symm
            subst this
            rw [if_pos rfl, if_pos nI_0]
            rfl
          | succ j =>
            rw [if_neg (c := nI (j + 1) = 0) (nI_ne0 (by omega) (by omega))]
            have e4 : g_ls (g_ch (g_tc C s) p) (j + 1) = some a := ea
            rw [e4]
            split <;> rfl
        | some t =>
          have ht := hlt i t e
          rw [g_end_s hl e]
          show (if nI t = -1 then _ else K (nI t) (nI i + 1)) = _
          rw [if_neg (g_m1 (by omega)), nI_1]
          have hh := ih (i + 1) (by show P - (i + 1) < P - i; omega) (by omega) (fun j hj => by
            by_cases q : j = i
            · subst q
              rw [e]
              exact Option.some_ne_none t
            · exact hno j (by omega))
          have e3 : g_oi (g_sq (g_ch (g_tc C s) p) p (i + 1)) = nI t := by
            show g_oi (g_ch (g_tc C s) p i) = nI t
            rw [e]
            rfl
          rw [e3] at hh
          exact hh
      · have e : i = P := by omega
        subst e
        rw [if_pos (nI_le (Nat.le_refl _) (by omega)), g_end_P, if_neg (Nat.lt_irrefl _)]) gs_fuel 0 (by show P - 0 < gs_fuel; rw [gs_fuel_eq]; omega) (Nat.zero_le _) (fun j hj => absurd hj (Nat.not_lt_zero _))
  have same : (if (g_ch (g_tc C s) p (g_end (g_ch (g_tc C s) p) P 0)) = none then g_oi (g_ls (g_ch (g_tc C s) p) (g_end (g_ch (g_tc C s) p) P 0)) else -1) = (if g_end (g_ch (g_tc C s) p) P 0 < P then g_oi (g_ls (g_ch (g_tc C s) p) (g_end (g_ch (g_tc C s) p) P 0)) else -1) := by
    have hle := g_end_le (ch := g_ch (g_tc C s) p) (P := P) (i := 0) (by omega)
    by_cases q : g_end (g_ch (g_tc C s) p) P 0 < P
    · rw [if_pos q, if_pos (g_end_lt q)]
    · have e : g_end (g_ch (g_tc C s) p) P 0 = P := by omega
      rw [if_neg q, if_neg]
      rw [e]
      exact v_pig hp hlt (g_end_all e)
  refine ⟨if g_end (g_ch (g_tc C s) p) P 0 < P then g_oi (g_ls (g_ch (g_tc C s) p) (g_end (g_ch (g_tc C s) p) P 0)) else -1, ?_, ?_⟩
  · unfold f_X10_origin
    rw [g_teacher (by omega) (by omega), gs_b1_s, (htc p hp).1, ← same]
    have hc' : gs_it (fun _ _ _ => none) (f_X10_origin_14 (nI s) (nI P) C) gs_fuel (-1) (g_oi (g_tc C s p)) (nI 0) = _ := hc
    rw [nI_0] at hc'
    exact hc'
  · unfold f_X12_origin
    have hm' : gs_it (fun _ _ => none) (f_X12_origin_5 (nI p) (nI s) (nI P) M (fun (x3' : Int32) (x4' : Int32) => f_X12_origin_36 (nI p) x3' x4')) gs_fuel (nI p) (nI 0) = _ := hm
    rw [nI_0] at hm'
    exact hm'
/-- how often the note changes, and the last one -/
def g_chg (v : Nat → Int32) : Nat → Int32 × Int32
  | 0 => (0, -1)
  | i + 1 => if v i = -1 then g_chg v i else if (g_chg v i).2 = -1 then ((g_chg v i).1, v i) else if v i = (g_chg v i).2 then ((g_chg v i).1, v i) else ((g_chg v i).1 + 1, v i)
theorem g_chg_cong {v w : Nat → Int32} : ∀ {n : Nat}, (∀ k, k < n → v k = w k) → g_chg v n = g_chg w n
  | 0, _ => rfl
  | n + 1, e => by rw [g_chg, g_chg, e n (by omega), g_chg_cong (fun k hk => e k (by omega))]
theorem v_changes (h : g_R P S D len mem C M 0) (hP : P ≤ 7) (hS : S ≤ 5) {p s : Nat} (hp : p < P) (hs : s < S) (hl : L s = nI (len s)) (hml : ML s = nI (len s)) (hn : len s ≤ 8) : ∃ r, f_X10_changes (nI s) (C (8 + 5 * p + s)) L = some r ∧ f_X12_changesIn (nI p) (nI s) ML M = some r := by
  refine ⟨(g_chg (g_nt (C (8 + 5 * p + s))) (len s)).1, ?_, ?_⟩
  · unfold f_X10_changes
    refine g_la2 (len s) (fun i => (g_chg (g_nt (C (8 + 5 * p + s))) i).1) (fun i => (g_chg (g_nt (C (8 + 5 * p + s))) i).2) (by omega) rfl rfl (fun K i hi => ?_) (fun K => ?_)
    · unfold f_X10_changes_8
      rw [gs_gd_t (gs_in_nI (by omega) (by decide)), nI_clamp (by omega), hl, if_neg (nI_ge hi (by omega)), g_noteAt _ (by omega), gs_b1_s, nI_1 i, g_chg]
      split
      · rfl
      · split
        · rfl
        · split <;> rfl
    · unfold f_X10_changes_8
      rw [gs_gd_t (gs_in_nI (by omega) (by decide)), nI_clamp (by omega), hl, if_pos (nI_le (Nat.le_refl _) (by omega))]
  · have e : g_chg (g_nt (C (8 + 5 * p + s))) (len s) = g_chg (fun k => M (1 + 40 * p + 8 * s + k)) (len s) := g_chg_cong (fun k hk => by
      have := ((h.2.1 p hp s hs).1 k (by omega)).1
      rw [Nat.zero_add] at this
      exact this)
    rw [e]
    unfold f_X12_changesIn
    refine g_la2 (len s) (fun i => (g_chg (fun k => M (1 + 40 * p + 8 * s + k)) i).1) (fun i => (g_chg (fun k => M (1 + 40 * p + 8 * s + k)) i).2) (by omega) rfl rfl (fun K i hi => ?_) (fun K => ?_)
    · unfold f_X12_changesIn_8
      rw [gs_gd_t (gs_in_nI (by omega) (by decide)), nI_clamp (n := s) (by omega), hml, if_neg (nI_ge hi (by omega)), m_noteAt, gs_b1_s, gs_gd_t (gs_in_nI (by omega) (by decide)), nI_clamp (by omega), nI_1 i, g_chg, g_add0]
      split
      · rfl
      · split
        · rfl
        · split <;> rfl
    · unfold f_X12_changesIn_8
      rw [gs_gd_t (gs_in_nI (by omega) (by decide)), nI_clamp (by omega), hml, if_pos (nI_le (Nat.le_refl _) (by omega))]
def g_hi (v : Nat → Int32) : Nat → Int32
  | 0 => -1
  | i + 1 => if g_hi v i < v i then v i else g_hi v i
theorem g_hi_cong {v w : Nat → Int32} : ∀ {n : Nat}, (∀ k, k < n → v k = w k) → g_hi v n = g_hi w n
  | 0, _ => rfl
  | n + 1, e => by rw [g_hi, g_hi, e n (by omega), g_hi_cong (fun k hk => e k (by omega))]
theorem g_greater (a b : Int32) : f_X12_greater a b = some (if a < b then b else a) := by
  unfold f_X12_greater
  by_cases h : a < b
  · rw [if_pos h, if_pos]
    rw [Int32.lt_iff_toInt_lt] at h
    rw [Int32.le_iff_toInt_le]
    omega
  · rw [if_neg h]
    by_cases h2 : a ≤ b
    · rw [if_pos h2]
      refine congrArg some (Int32.toInt_inj.mp ?_)
      rw [Int32.lt_iff_toInt_lt] at h
      rw [Int32.le_iff_toInt_le] at h2
      omega
    · rw [if_neg h2]
theorem v_highest (h : g_R P S D len mem C M 0) (hP : P ≤ 7) (hS : S ≤ 5) {p s : Nat} (hp : p < P) (hs : s < S) (hl : L s = nI (len s)) (hml : ML s = nI (len s)) (hn : len s ≤ 8) : ∃ r, f_X10_highest (nI s) (C (8 + 5 * p + s)) L = some r ∧ f_X12_highest (nI p) (nI s) ML M = some r := by
  refine ⟨g_hi (g_nt (C (8 + 5 * p + s))) (len s), ?_, ?_⟩
  · unfold f_X10_highest
    refine g_la (len s) (fun i => g_hi (g_nt (C (8 + 5 * p + s))) i) (by omega) rfl (fun K i hi => ?_) (fun K => ?_)
    · unfold f_X10_highest_5
      rw [gs_gd_t (gs_in_nI (by omega) (by decide)), nI_clamp (by omega), hl, if_neg (nI_ge hi (by omega)), g_noteAt _ (by omega), gs_b1_s, nI_1 i, g_hi]
    · unfold f_X10_highest_5
      rw [gs_gd_t (gs_in_nI (by omega) (by decide)), nI_clamp (by omega), hl, if_pos (nI_le (Nat.le_refl _) (by omega))]
  · have e : g_hi (g_nt (C (8 + 5 * p + s))) (len s) = g_hi (fun k => M (1 + 40 * p + 8 * s + k)) (len s) := g_hi_cong (fun k hk => by
      have := ((h.2.1 p hp s hs).1 k (by omega)).1
      rw [Nat.zero_add] at this
      exact this)
    rw [e]
    unfold f_X12_highest
    refine g_la (len s) (fun i => g_hi (fun k => M (1 + 40 * p + 8 * s + k)) i) (by omega) rfl (fun K i hi => ?_) (fun K => ?_)
    · unfold f_X12_highest_5
      rw [gs_gd_t (gs_in_nI (by omega) (by decide)), nI_clamp (n := s) (by omega), hml, if_neg (nI_ge hi (by omega)), m_noteAt, gs_b1_s, gs_gd_t (gs_in_nI (by omega) (by decide)), nI_clamp (by omega), g_greater, gs_b1_s, nI_1 i, g_hi]
    · unfold f_X12_highest_5
      rw [gs_gd_t (gs_in_nI (by omega) (by decide)), nI_clamp (by omega), hml, if_pos (nI_le (Nat.le_refl _) (by omega))]
def g_agr (c : Nat → Nat) : Nat → Int32 × Nat
  | 0 => (-1, 0)
  | i + 1 => if (g_agr c i).2 < c i then (nI i, c i) else g_agr c i
theorem g_agr_le {c : Nat → Nat} {m : Nat} (h : ∀ k, c k ≤ m) : ∀ i, (g_agr c i).2 ≤ m
  | 0 => Nat.zero_le _
  | i + 1 => by
    rw [g_agr]
    split
    · exact h i
    · exact g_agr_le h i
theorem v_agreed (h : g_R P S D len mem C M 0) (hP : P ≤ 7) (hS : S ≤ 5) {s k : Nat} (hs : s < S) (hk : k < 8) (th : Int32) : ∃ r, f_X10_agreedNote (nI s) (nI k) (nI P) C = some r ∧ gs_it (fun _ _ _ => none) (f_X12_agreed_32 (nI s) (nI k) th (nI P) M) gs_fuel (-1) 0 0 = some (r, th) := by
  have hle : ∀ i, (g_agr (fun note => g_ct (fun p => g_nt (C (8 + 5 * p + s)) k == nI note) P) i).2 ≤ 7 := g_agr_le (fun j => by
    have := g_ct_le (fun p => g_nt (C (8 + 5 * p + s)) k == nI j) P
    show g_ct _ P ≤ 7
    omega)
  refine ⟨(g_agr (fun note => g_ct (fun p => g_nt (C (8 + 5 * p + s)) k == nI note) P) 10).1, ?_, ?_⟩
  · unfold f_X10_agreedNote
    refine g_la2 10 (fun i => (g_agr (fun note => g_ct (fun p => g_nt (C (8 + 5 * p + s)) k == nI note) P) i).1) (fun i => nI (g_agr (fun note => g_ct (fun p => g_nt (C (8 + 5 * p + s)) k == nI note) P) i).2) (by omega) rfl rfl (fun K i hi => ?_) (fun K => ?_)
    · unfold f_X10_agreedNote_9
      have hi2 := hle i
      have hci := g_ct_le (fun p => g_nt (C (8 + 5 * p + s)) k == nI i) P
      rw [if_neg (show ¬ (9 : Int32) < nI i from nI_nlt (a := 9) (by omega) (by omega))]
      refine g_la P (fun j => nI (g_ct (fun p => g_nt (C (8 + 5 * p + s)) k == nI i) j)) (by omega) rfl (fun K2 j hj => ?_) (fun K2 => ?_)
      · unfold f_X10_agreedNote_22
        rw [if_neg (nI_ge hj (by omega)), g_notes (by omega) (by omega), gs_b1_s, g_noteAt _ hk, gs_b1_s, nI_1 j]
        by_cases e : g_nt (C (8 + 5 * j + s)) k = nI i
        · rw [if_pos e, g_ct_t (g := fun p => g_nt (C (8 + 5 * p + s)) k == nI i) (i := j) (by simp [e])]
        · rw [if_neg e, g_ct_f (g := fun p => g_nt (C (8 + 5 * p + s)) k == nI i) (i := j) (by simp [e])]
      · unfold f_X10_agreedNote_22
        rw [if_pos (nI_le (Nat.le_refl _) (by omega))]
        unfold f_X10_agreedNote_59
        dsimp only
        rw [nI_1 i, g_agr]
        by_cases q : (g_agr (fun note => g_ct (fun p => g_nt (C (8 + 5 * p + s)) k == nI note) P) i).2 < g_ct (fun p => g_nt (C (8 + 5 * p + s)) k == nI i) P
        · rw [if_neg (nI_ge q (by omega)), if_pos q]
        · rw [if_pos (nI_le (by omega) (by omega)), if_neg q]
    · unfold f_X10_agreedNote_9
      exact if_pos (by decide)
  · have hcnt : ∀ note, g_ct (fun p => g_nt (C (8 + 5 * p + s)) k == nI note) P = g_ct (fun p => M (1 + 40 * p + 8 * s + k) == nI note) P := fun note => g_ct_cong (fun p hp => by
      have := ((h.2.1 p hp s hs).1 k hk).1
      rw [Nat.zero_add] at this
      rw [this])
    refine g_la2 10 (fun i => (g_agr (fun note => g_ct (fun p => g_nt (C (8 + 5 * p + s)) k == nI note) P) i).1) (fun i => nI (g_agr (fun note => g_ct (fun p => g_nt (C (8 + 5 * p + s)) k == nI note) P) i).2) (by omega) rfl rfl (fun K i hi => ?_) (fun K => ?_)
    · unfold f_X12_agreed_32
      have hi2 := hle i
      have hci := g_ct_le (fun p => g_nt (C (8 + 5 * p + s)) k == nI i) P
      rw [if_neg (show ¬ (10 : Int32) ≤ nI i from nI_ge (b := 10) hi (by omega))]
      refine g_la P (fun j => nI (g_ct (fun p => M (1 + 40 * p + 8 * s + k) == nI i) j)) (by omega) rfl (fun K2 j hj => ?_) (fun K2 => ?_)
      · unfold f_X12_agreed_45
        rw [if_neg (nI_ge hj (by omega)), m_noteAt, gs_b1_s, gs_gd_t (gs_in_nI (by omega) (by decide)), nI_clamp (by omega), nI_1 j]
        by_cases e : M (1 + 40 * j + 8 * s + k) = nI i
        · rw [if_pos e, g_ct_t (g := fun p => M (1 + 40 * p + 8 * s + k) == nI i) (i := j) (by simp [e])]
        · rw [if_neg e, g_add0, g_ct_f (g := fun p => M (1 + 40 * p + 8 * s + k) == nI i) (i := j) (by simp [e])]
      · unfold f_X12_agreed_45
        rw [if_pos (nI_le (Nat.le_refl _) (by omega))]
        unfold f_X12_agreed_87
        dsimp only
        rw [nI_1 i, g_agr, ← hcnt i]
        by_cases q : (g_agr (fun note => g_ct (fun p => g_nt (C (8 + 5 * p + s)) k == nI note) P) i).2 < g_ct (fun p => g_nt (C (8 + 5 * p + s)) k == nI i) P
        · rw [if_pos (nI_lt q (by omega)), if_pos q]
        · rw [if_neg (nI_nlt (by omega) (by omega)), if_neg q]
    · unfold f_X12_agreed_32
      exact if_pos (by decide)
end V3
