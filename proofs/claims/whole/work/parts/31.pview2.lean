/-! ===== pure rows: nearest, teachers of teachers, changes, highest, agreed ===== -/
section V2
variable {P S D : Nat} {len mem : Nat → Nat} {C M L ML : Nat → Int32}
theorem v_H {b : Nat} (h : g_R P S D len mem C M b) {p s : Nat} (hp : p < P) (hs : s < S) : g_H C p s = m_H M b p s := (h.2.1 p hp s hs).H
theorem v_who {b : Nat} (h : g_R P S D len mem C M b) {s : Nat} (hs : s < S) : g_mk (fun p => g_H C p s) P = g_mk (fun p => m_H M b p s) P := g_mk_cong (fun p hp => v_H h hp hs)
theorem v_gaps {b : Nat} (h : g_R P S D len mem C M b) {p s : Nat} (hp : p < P) (hs : s < S) (hn : len s ≤ 8) : g_mk (g_nA (C (8 + 5 * p + s))) (len s) = g_mk (m_nA M b p s) (len s) := g_mk_cong (fun k hk => (h.2.1 p hp s hs).nA (by omega))
theorem v_gct {b : Nat} (h : g_R P S D len mem C M b) {p s : Nat} (hp : p < P) (hs : s < S) (hn : len s ≤ 8) : g_ct (g_nA (C (8 + 5 * p + s))) (len s) = g_ct (m_nA M b p s) (len s) := g_ct_cong (fun k hk => (h.2.1 p hp s hs).nA (by omega))
theorem v_ul (h : g_R P S D len mem C M 0) {p o s : Nat} (hp : p < P) (ho : o < P) (hs : s < S) (hn : len s ≤ 8) : g_ct (g_ul (C (8 + 5 * p + s)) (C (8 + 5 * o + s))) (len s) = g_ct (m_ul M p o s) (len s) := by
  refine g_ct_cong (fun k hk => ?_)
  have h1 := ((h.2.1 p hp s hs).1 k (by omega)).1
  have h2 := ((h.2.1 o ho s hs).1 k (by omega)).1
  rw [Nat.zero_add] at h1 h2
  unfold g_ul m_ul
  rw [h1, h2]
theorem v_ul0 (x : Int32) (n : Nat) : g_ct (g_ul x x) n = 0 := g_ct_0.mpr (fun k _ => by simp [g_ul])
theorem v_ulAll (h : g_R P S D len mem C M 0) {p s : Nat} (hp : p < P) (hs : s < S) (hn : len s ≤ 8) : g_sum (fun o => if g_H C o s = true then g_ct (g_ul (C (8 + 5 * p + s)) (C (8 + 5 * o + s))) (len s) else 0) P = g_sum (fun o => if (!(o == p) && m_H M 0 o s) = true then g_ct (m_ul M p o s) (len s) else 0) P := by
  refine g_sum_cong (fun o ho => ?_)
  rw [v_H h ho hs]
  by_cases e : o = p
  · subst e
    rw [v_ul0]
    simp
  · rw [v_ul h hp ho hs hn]
    simp [e]
def g_near (U : Nat → Nat) (H : Nat → Bool) : Nat → Option Nat
  | 0 => none
  | i + 1 => if H i then (match g_near U H i with | none => some i | some w => if U w ≤ U i then some w else some i) else g_near U H i
def g_nU (U : Nat → Nat) : Option Nat → Int32
  | none => 0
  | some w => nI (U w)
theorem g_near_lt (U : Nat → Nat) (H : Nat → Bool) : ∀ i w, g_near U H i = some w → w < i
  | 0, w, h => by cases h
  | i + 1, w, h => by
    rw [g_near] at h
    by_cases e : H i = true
    · rw [if_pos e] at h
      cases hn : g_near U H i with
      | none => rw [hn] at h; cases h; omega
      | some v =>
        rw [hn] at h
        have := g_near_lt U H i v hn
        simp only at h
        split at h <;> (cases h; omega)
    · rw [if_neg e] at h
      have := g_near_lt U H i w h
      omega
theorem g_near_t {U : Nat → Nat} {H : Nat → Bool} {i : Nat} (e : H i = true) : g_near U H (i + 1) = (match g_near U H i with | none => some i | some w => if U w ≤ U i then some w else some i) := if_pos e
theorem g_near_f {U : Nat → Nat} {H : Nat → Bool} {i : Nat} (e : ¬ H i = true) : g_near U H (i + 1) = g_near U H i := if_neg e
theorem v_nearestC {s n : Nat} {U : Nat → Nat} (hs : s < 5) (hP : P ≤ 7) (hU : ∀ p, p < P → f_X10_unlikeAll (nI p) (nI s) (nI P) L C = some (nI (U p))) (hU2 : ∀ p, U p < 1000) : f_X10_nearest (nI s) (nI P) L C = some (g_oi (g_near U (fun p => g_H C p s) P)) := by
  unfold f_X10_nearest
  refine g_la2 P (fun i => g_oi (g_near U (fun p => g_H C p s) i)) (fun i => g_nU U (g_near U (fun p => g_H C p s) i)) (by omega) rfl rfl (fun K i hi => ?_) (fun K => ?_)
  · unfold f_X10_nearest_8
    rw [if_neg (nI_ge hi (by omega)), g_holdsB (by omega) hs, gs_b1_s, nI_1 i]
    by_cases e : g_H C i s = true
    · rw [if_pos e, if_neg (by decide), hU i hi, gs_b1_s, g_near_t (U := U) (H := fun p => g_H C p s) (i := i) e]
      cases hn : g_near U (fun p => g_H C p s) i with
      | none => exact if_pos rfl
      | some w =>
        have hw := g_near_lt _ _ _ _ hn
        show (if nI w = -1 then _ else if nI (U w) ≤ nI (U i) then _ else _) = _
        rw [if_neg (g_m1 (by omega))]
        have u1 := hU2 w
        have u2 := hU2 i
        by_cases q : U w ≤ U i
        · rw [if_pos (nI_le q (by omega))]
          show _ = K (g_oi (if U w ≤ U i then some w else some i)) (g_nU U (if U w ≤ U i then some w else some i)) _
          rw [if_pos q]
        · rw [if_neg (nI_ge (by omega) (by omega))]
          show _ = K (g_oi (if U w ≤ U i then some w else some i)) (g_nU U (if U w ≤ U i then some w else some i)) _
          rw [if_neg q]
          rfl
    · rw [if_neg e, if_pos rfl, g_near_f (U := U) (H := fun p => g_H C p s) (i := i) e]
  · unfold f_X10_nearest_8
    exact if_pos (nI_le (Nat.le_refl _) (by omega))
theorem v_nearestM {s : Nat} {U : Nat → Nat} (hs : s < 5) (hP : P ≤ 7) (hU : ∀ p, p < P → f_X12_unlikeAll (nI p) (nI s) (nI P) ML M = some (nI (U p))) (hU2 : ∀ p, U p < 1000) : f_X12_nearest (nI s) (nI P) ML M = some (g_oi (g_near U (fun p => m_H M 0 p s) P)) := by
  unfold f_X12_nearest
  refine g_la P (fun i => g_oi (g_near U (fun p => m_H M 0 p s) i)) (by omega) rfl (fun K i hi => ?_) (fun K => ?_)
  · unfold f_X12_nearest_4
    have hh : f_X12_doesHave 0 (nI i) (nI s) M = some (if m_H M 0 i s = true then 1 else 0) := m_has (b := 0) (by omega) (by omega) hs M
    rw [if_neg (nI_ge hi (by omega)), hh, gs_b1_s, nI_1 i]
    by_cases e : m_H M 0 i s = true
    · rw [if_pos e, if_neg (by decide), g_near_t (U := U) (H := fun p => m_H M 0 p s) (i := i) e]
      cases hn : g_near U (fun p => m_H M 0 p s) i with
      | none => exact if_pos rfl
      | some w =>
        have hw := g_near_lt _ _ _ _ hn
        show (if nI w = -1 then _ else gs_b1 _ fun r5 => gs_b1 (f_X12_unlikeAll (nI w) (nI s) (nI P) ML M) fun r6 => if r6 ≤ r5 then K (nI w) (nI (i + 1)) else K (nI i) (nI (i + 1))) = _
        rw [if_neg (g_m1 (by omega)), hU i hi, gs_b1_s, hU w (by omega), gs_b1_s]
        have u1 := hU2 w
        have u2 := hU2 i
        by_cases q : U w ≤ U i
        · rw [if_pos (nI_le q (by omega))]
          show _ = K (g_oi (if U w ≤ U i then some w else some i)) _
          rw [if_pos q]
          rfl
        · rw [if_neg (nI_ge (by omega) (by omega))]
          show _ = K (g_oi (if U w ≤ U i then some w else some i)) _
          rw [if_neg q]
          rfl
    · rw [if_neg e, if_pos rfl, g_near_f (U := U) (H := fun p => m_H M 0 p s) (i := i) e]
  · unfold f_X12_nearest_4
    exact if_pos (nI_le (Nat.le_refl _) (by omega))
theorem g_near_cong {U : Nat → Nat} {H H' : Nat → Bool} : ∀ {n : Nat}, (∀ k, k < n → H k = H' k) → g_near U H n = g_near U H' n
  | 0, _ => rfl
  | n + 1, e => by rw [g_near, g_near, e n (by omega), g_near_cong (fun k hk => e k (by omega))]
/-- who is nearest to all, and by how much -/
theorem v_nearest (h : g_R P S D len mem C M 0) (hP : P ≤ 7) (hS : S ≤ 5) {s : Nat} (hs : s < S) (hl : L s = nI (len s)) (hml : ML s = nI (len s)) (hn : len s ≤ 8) : ∃ o, f_X10_nearest (nI s) (nI P) L C = some (g_oi o) ∧ f_X12_nearest (nI s) (nI P) ML M = some (g_oi o) ∧ (o = none ∨ ∃ w u, o = some w ∧ w < P ∧ f_X10_unlikeAll (nI w) (nI s) (nI P) L C = some (nI u) ∧ f_X12_unlikeAll (nI w) (nI s) (nI P) ML M = some (nI u)) := by
  have hb : ∀ p, g_sum (fun o => if g_H C o s = true then g_ct (g_ul (C (8 + 5 * p + s)) (C (8 + 5 * o + s))) (len s) else 0) P < 1000 := by
    intro p
    have := g_sum_le (f := fun o => if g_H C o s = true then g_ct (g_ul (C (8 + 5 * p + s)) (C (8 + 5 * o + s))) (len s) else 0) (m := 8) (n := P) (fun k hk => by
      by_cases e : g_H C k s = true
      · show (if g_H C k s = true then _ else 0) ≤ 8
        rw [if_pos e]
        have := g_ct_le (g_ul (C (8 + 5 * p + s)) (C (8 + 5 * k + s))) (len s)
        omega
      · show (if g_H C k s = true then _ else 0) ≤ 8
        rw [if_neg e]
        omega)
    omega
  have uC : ∀ p, p < P → f_X10_unlikeAll (nI p) (nI s) (nI P) L C = some (nI (g_sum (fun o => if g_H C o s = true then g_ct (g_ul (C (8 + 5 * p + s)) (C (8 + 5 * o + s))) (len s) else 0) P)) := fun p hp => g_unlikeAll (by omega) (by omega) hP hl hn
  have uM : ∀ p, p < P → f_X12_unlikeAll (nI p) (nI s) (nI P) ML M = some (nI (g_sum (fun o => if g_H C o s = true then g_ct (g_ul (C (8 + 5 * p + s)) (C (8 + 5 * o + s))) (len s) else 0) P)) := fun p hp => by
    rw [v_ulAll h hp hs hn]
    exact m_unlikeAll (by omega) (by omega) hP hml hn
  refine ⟨_, v_nearestC (n := 0) (by omega) hP uC hb, ?_, ?_⟩
  · rw [v_nearestM (by omega) hP uM hb]
    rw [g_near_cong (H := fun p => m_H M 0 p s) (H' := fun p => g_H C p s) (fun k hk => (v_H h hk hs).symm)]
  · cases e : g_near (fun p => g_sum (fun o => if g_H C o s = true then g_ct (g_ul (C (8 + 5 * p + s)) (C (8 + 5 * o + s))) (len s) else 0) P) (fun p => g_H C p s) P with
    | none => exact Or.inl rfl
    | some w =>
      have hw := g_near_lt _ _ _ _ e
      exact Or.inr ⟨w, _, rfl, hw, uC w hw, uM w hw⟩
/-! teachers of teachers -/
def g_tc (C : Nat → Int32) (s t : Nat) : Option Nat := if C (43 + 5 * t + s) = -1 then none else some (C (43 + 5 * t + s)).toNatClampNeg
def g_ch (tc : Nat → Option Nat) (p : Nat) : Nat → Option Nat
  | 0 => tc p
  | i + 1 => match g_ch tc p i with | none => none | some t => tc t
theorem v_tc {b : Nat} (h : g_R P S D len mem C M b) (hP : P ≤ 7) {p s : Nat} (hp : p < P) (hs : s < S) : C (43 + 5 * p + s) = g_oi (g_tc C s p) ∧ M (b + 316 + 5 * p + s) = g_oi (g_tc C s p) ∧ ∀ t, g_tc C s p = some t → t < P := by
  obtain ⟨-, -, a3, a4⟩ := h.2.1 p hp s hs
  unfold g_tc
  rcases a4 with e | ⟨t, ht, e⟩
  · rw [if_pos e, ← a3]
    exact ⟨e, e, fun t h => by cases h⟩
  · have : C (43 + 5 * p + s) = g_oi (some (C (43 + 5 * p + s)).toNatClampNeg) := by
      rw [e]
      show nI t = nI (nI t).toNatClampNeg
      rw [nI_clamp (by omega)]
    rw [if_neg (by rw [e]; exact g_m1 (by omega)), ← a3]
    refine ⟨this, this, fun u hu => ?_⟩
    rw [e, nI_clamp (by omega)] at hu
    cases hu
    exact ht
theorem g_ch_lt {tc : Nat → Option Nat} {p : Nat} (hp : p < P) (htc : ∀ p, p < P → ∀ t, tc p = some t → t < P) : ∀ i t, g_ch tc p i = some t → t < P
  | 0, t, h => htc p hp t h
  | i + 1, t, h => by
    rw [g_ch] at h
    cases e : g_ch tc p i with
    | none => rw [e] at h; cases h
    | some u => rw [e] at h; exact htc u (g_ch_lt hp htc i u e) t h
theorem g_ch_s {tc : Nat → Option Nat} {p i t : Nat} (h : g_ch tc p i = some t) : g_ch tc p (i + 1) = tc t := by
  rw [g_ch, h]
/-- where the row of teachers ends, from i on -/
def g_end (ch : Nat → Option Nat) (P i : Nat) : Nat := (g_ff (fun j => (ch j).isNone) (P - i) i).getD P
theorem g_end_n {ch : Nat → Option Nat} {P i : Nat} (hi : i < P) (h : ch i = none) : g_end ch P i = i := by
  unfold g_end
  obtain ⟨k, hk⟩ : ∃ k, P - i = k + 1 := ⟨P - i - 1, by omega⟩
  rw [hk, g_ff, h]
  rfl
theorem g_end_s {ch : Nat → Option Nat} {P i t : Nat} (hi : i < P) (h : ch i = some t) : g_end ch P i = g_end ch P (i + 1) := by
  unfold g_end
  obtain ⟨k, hk⟩ : ∃ k, P - i = k + 1 := ⟨P - i - 1, by omega⟩
  rw [hk, g_ff, h, if_neg (by simp), show P - (i + 1) = k by omega]
theorem g_end_P {ch : Nat → Option Nat} {P : Nat} : g_end ch P P = P := by
  unfold g_end
  rw [Nat.sub_self]
  rfl
theorem v_gen (h : g_R P S D len mem C M 0) (hP : P ≤ 7) (hS : S ≤ 5) {p s : Nat} (hp : p < P) (hs : s < S) : ∃ r, f_X10_generation (nI p) (nI s) (nI P) C = some r ∧ f_X12_generation (nI p) (nI s) (nI P) M = some r := by
  have htc := fun q hq => v_tc (p := q) h hP hq hs
  have hlt : ∀ i t, g_ch (g_tc C s) p i = some t → t < P := g_ch_lt hp (fun q hq => (htc q hq).2.2)
  have hc := g_run (z := fun _ _ => none) (b := f_X10_generation_11 (nI s) (nI P) C) (ρ := Int32) (σ := Nat) (fun K i => K (nI i) (g_oi (g_ch (g_tc C s) p i))) (fun i => P - i) (fun i r => i ≤ P → r = some (nI (g_end (g_ch (g_tc C s) p) P i)))
    (fun K i ih hi => by
      show f_X10_generation_11 (nI s) (nI P) C K (nI i) (g_oi (g_ch (g_tc C s) p i)) = _
      unfold f_X10_generation_11
      rcases Nat.lt_or_ge i P with hl | hl
      · rw [if_neg (nI_ge hl (by omega))]
        cases e : g_ch (g_tc C s) p i with
        | none => rw [g_end_n hl e]; exact if_pos rfl
        | some t =>
          have ht := hlt i t e
          rw [g_end_s hl e]
          show (if nI t = -1 then _ else gs_b1 (f_X7_teacher (nI t) (nI s) C) _) = _
          rw [if_neg (g_m1 (by omega)), g_teacher (by omega) (by omega), gs_b1_s, nI_1, (htc t ht).1, ← g_ch_s e]
          exact ih (i + 1) (by show P - (i + 1) < P - i; omega) (by omega)
      · have e : i = P := by omega
        subst e
        rw [if_pos (nI_le (Nat.le_refl _) (by omega)), g_end_P]) gs_fuel 0 (by show P - 0 < gs_fuel; rw [gs_fuel_eq]; omega) (Nat.zero_le _)
  have hm := g_run (z := fun _ _ => none) (b := f_X12_generation_18 (nI s) (nI P) M) (ρ := Int32) (σ := Nat) (fun K i => K (g_oi (g_ch (g_tc C s) p i)) (nI i)) (fun i => P - i) (fun i r => i ≤ P → r = some (nI (g_end (g_ch (g_tc C s) p) P i)))
    (fun K i ih hi => by
      show f_X12_generation_18 (nI s) (nI P) M K (g_oi (g_ch (g_tc C s) p i)) (nI i) = _
      unfold f_X12_generation_18
      rcases Nat.lt_or_ge i P with hl | hl
      · rw [if_neg (nI_ge hl (by omega))]
        cases e : g_ch (g_tc C s) p i with
        | none => rw [g_end_n hl e]; exact if_pos rfl
        | some t =>
          have ht := hlt i t e
          have h2 := (htc t ht).2.1
          rw [Nat.zero_add] at h2
          rw [g_end_s hl e]
          show (if nI t = -1 then _ else gs_gd (gs_in ((316 + (5 * nI t)) + nI s) 744) <| K (M ((316 + (5 * nI t)) + nI s).toNatClampNeg) (nI i + 1)) = _
          rw [if_neg (g_m1 (by omega)), m_ixT0, gs_gd_t (gs_in_nI (by omega) (by decide)), nI_clamp (by omega), nI_1, h2, ← g_ch_s e]
          exact ih (i + 1) (by show P - (i + 1) < P - i; omega) (by omega)
      · have e : i = P := by omega
        subst e
        rw [if_pos (nI_le (Nat.le_refl _) (by omega)), g_end_P]) gs_fuel 0 (by show P - 0 < gs_fuel; rw [gs_fuel_eq]; omega) (Nat.zero_le _)
  refine ⟨nI (g_end (g_ch (g_tc C s) p) P 0), ?_, ?_⟩
  · unfold f_X10_generation
    rw [g_teacher (by omega) (by omega), gs_b1_s, (htc p hp).1]
    have hc' : gs_it (fun _ _ => none) (f_X10_generation_11 (nI s) (nI P) C) gs_fuel (nI 0) (g_oi (g_tc C s p)) = _ := hc
    rw [nI_0] at hc'
    exact hc'
  · have h2 := (htc p hp).2.1
    rw [Nat.zero_add] at h2
    unfold f_X12_generation
    rw [m_ixT0, gs_gd_t (gs_in_nI (by omega) (by decide)), nI_clamp (by omega), h2]
    have hm' : gs_it (fun _ _ => none) (f_X12_generation_18 (nI s) (nI P) M) gs_fuel (g_oi (g_tc C s p)) (nI 0) = _ := hm
    rw [nI_0] at hm'
    exact hm'
/-- whom the first i steps come to -/
def g_vi (ch : Nat → Option Nat) : Nat → Nat → Bool
  | 0, _ => false
  | i + 1, t => g_vi ch i t || ch i == some t
theorem g_vi_iff {ch : Nat → Option Nat} {t : Nat} : ∀ {i : Nat}, g_vi ch i t = true ↔ ∃ j, j < i ∧ ch j = some t
  | 0 => by simp [g_vi]
  | i + 1 => by
    rw [g_vi, Bool.or_eq_true, g_vi_iff]
    constructor
    · rintro (⟨j, h1, h2⟩ | h)
      · exact ⟨j, by omega, h2⟩
      · exact ⟨i, by omega, by simpa using h⟩
    · rintro ⟨j, h1, h2⟩
      by_cases e : j = i
      · subst e
        right
        simp [h2]
      · left
        exact ⟨j, by omega, h2⟩
theorem g_mk_ins (g : Nat → Bool) {n t : Nat} (ht : t < n) (hn : n ≤ 31) : nI (g_mk g n) ||| ((1 : Int32) <<< (nI t &&& 31)) = nI (g_mk (fun k => g k || some t == some k) n) := by
  rw [g_1shl t (by omega), g_or]
  refine congrArg nI ?_
  apply Nat.eq_of_testBit_eq
  intro i
  rw [Nat.testBit_or, g_mk_bit, g_mk_bit, Nat.testBit_two_pow]
  by_cases e : t = i
  · subst e
    simp [ht]
  · have e2 : (some t == some i) = false := by simp [e]
    rw [e2, Bool.or_false, decide_eq_false e, Bool.or_false]
theorem g_ct_ins {g : Nat → Bool} {t : Nat} (h : g t = false) : ∀ n, g_ct (fun k => g k || some t == some k) n = g_ct g n + (if t < n then 1 else 0)
  | 0 => rfl
  | n + 1 => by
    rw [g_ct, g_ct, g_ct_ins h n]
    by_cases e : t = n
    · subst e
      simp [h]
    · by_cases e2 : t < n
      · simp [e, e2, show t < n + 1 by omega]
        omega
      · simp [e, e2, show ¬ t < n + 1 by omega]
/-- once it has come round, nobody new is met -/
theorem g_vi_closed {tc : Nat → Option Nat} {p i t : Nat} (h : g_ch tc p i = some t) (hv : g_vi (g_ch tc p) i t = true) : ∀ k u, g_vi (g_ch tc p) (i + k) u = g_vi (g_ch tc p) i u := by
  obtain ⟨j, hj, he⟩ := g_vi_iff.mp hv
  have per : ∀ m, g_ch tc p (i + m) = g_ch tc p (j + m) := by
    intro m
    induction m with
    | zero => rw [Nat.add_zero, Nat.add_zero, h, he]
    | succ m ih => rw [← Nat.add_assoc, ← Nat.add_assoc, g_ch, g_ch, ih]
  have small : ∀ m, ∃ q, q < i ∧ g_ch tc p (i + m) = g_ch tc p q := by
    intro m
    induction m using Nat.strongRecOn with
    | ind m ih =>
      rcases Nat.lt_or_ge (j + m) i with hl | hl
      · exact ⟨j + m, hl, per m⟩
      · obtain ⟨q, h1, h2⟩ := ih (j + m - i) (by omega)
        rw [show i + (j + m - i) = j + m by omega] at h2
        exact ⟨q, h1, (per m).trans h2⟩
  intro k
  induction k with
  | zero => intro u; rfl
  | succ k ih =>
    intro u
    rw [← Nat.add_assoc, g_vi, ih u]
    cases e : g_vi (g_ch tc p) i u with
    | true => rfl
    | false =>
      rw [Bool.false_or]
      obtain ⟨q, h1, h2⟩ := small k
      rw [h2]
      cases e2 : (g_ch tc p q == some u) with
      | false => rfl
      | true =>
        have : g_vi (g_ch tc p) i u = true := g_vi_iff.mpr ⟨q, h1, by simpa using e2⟩
        rw [this] at e
        cases e
theorem v_bit {m t : Nat} (hm : m < 128) (ht : t < 7) : ((nI m >>> (nI t &&& 31)) &&& 1) = 0 ↔ m.testBit t = false := by
  rw [g_sb m (by omega) t (by omega)]
  cases m.testBit t <;> decide
theorem g_end_ge {ch : Nat → Option Nat} {P i : Nat} (hi : i ≤ P) : i ≤ g_end ch P i := by
  unfold g_end
  cases e : g_ff (fun j => (ch j).isNone) (P - i) i with
  | none => exact hi
  | some k => exact (g_ff_some _ _ e).1
theorem v_taughtBy (h : g_R P S D len mem C M 0) (hP : P ≤ 7) (hS : S ≤ 5) {p s : Nat} (hp : p < P) (hs : s < S) : ∃ r, f_X10_taughtBy (nI p) (nI s) (nI P) C = some r ∧ f_X12_taughtBy (nI p) (nI s) M = some r := by
  have htc := fun q hq => v_tc (p := q) h hP hq hs
  have hlt : ∀ i t, g_ch (g_tc C s) p i = some t → t < P := g_ch_lt hp (fun q hq => (htc q hq).2.2)
  have hmask : ∀ (i t : Nat), g_ch (g_tc C s) p i = some t → g_mk (fun k => g_vi (g_ch (g_tc C s) p) i k || some t == some k) P = g_mk (g_vi (g_ch (g_tc C s) p) (i + 1)) P := by
    intro i t e
    refine g_mk_cong (fun k hk => ?_)
    rw [g_vi, e]
  have hc := g_run (z := fun _ _ _ => none) (b := f_X10_taughtBy_14 (nI s) (nI P) C) (ρ := Int32) (σ := Nat) (fun K i => K (nI (g_mk (g_vi (g_ch (g_tc C s) p) i) P)) (g_oi (g_ch (g_tc C s) p i)) (nI i)) (fun i => P - i) (fun i r => i ≤ P → r = some (nI (g_mk (g_vi (g_ch (g_tc C s) p) (g_end (g_ch (g_tc C s) p) P i)) P)))
    (fun K i ih hi => by
      show f_X10_taughtBy_14 (nI s) (nI P) C K (nI (g_mk (g_vi (g_ch (g_tc C s) p) i) P)) (g_oi (g_ch (g_tc C s) p i)) (nI i) = _
      unfold f_X10_taughtBy_14
      rcases Nat.lt_or_ge i P with hl | hl
      · rw [if_neg (nI_ge hl (by omega))]
        cases e : g_ch (g_tc C s) p i with
        | none => rw [g_end_n hl e]; exact if_pos rfl
        | some t =>
          have ht := hlt i t e
          rw [g_end_s hl e]
          show (if nI t = -1 then _ else gs_b1 (f_X7_teacher (nI t) (nI s) C) fun r4 => K (nI (g_mk (g_vi (g_ch (g_tc C s) p) i) P) ||| (1 <<< (nI t &&& 31))) r4 (nI i + 1)) = _
          rw [if_neg (g_m1 (by omega)), g_teacher (by omega) (by omega), gs_b1_s, nI_1, (htc t ht).1, ← g_ch_s e, g_mk_ins _ ht (by omega), hmask i t e]
          exact ih (i + 1) (by show P - (i + 1) < P - i; omega) (by omega)
      · have e : i = P := by omega
        subst e
        rw [if_pos (nI_le (Nat.le_refl _) (by omega)), g_end_P]) gs_fuel 0 (by show P - 0 < gs_fuel; rw [gs_fuel_eq]; omega) (Nat.zero_le _)
  have hm := g_run (z := fun _ _ => none) (b := f_X12_taughtBy_18 (nI s) M) (ρ := Int32) (σ := Nat) (fun K i => K (nI (g_mk (g_vi (g_ch (g_tc C s) p) i) P)) (g_oi (g_ch (g_tc C s) p i))) (fun i => P - i) (fun i r => i ≤ P → g_ct (g_vi (g_ch (g_tc C s) p) i) P = i → r = some (nI (g_mk (g_vi (g_ch (g_tc C s) p) (g_end (g_ch (g_tc C s) p) P i)) P)))
    (fun K i ih hi hct => by
      show f_X12_taughtBy_18 (nI s) M K (nI (g_mk (g_vi (g_ch (g_tc C s) p) i) P)) (g_oi (g_ch (g_tc C s) p i)) = _
      have hmk : g_mk (g_vi (g_ch (g_tc C s) p) i) P < 128 := Nat.lt_of_lt_of_le (g_mk_lt _ P) (Nat.pow_le_pow_right (by decide) hP)
      unfold f_X12_taughtBy_18
      cases e : g_ch (g_tc C s) p i with
      | none =>
        rcases Nat.lt_or_ge i P with hl | hl
        · rw [g_end_n hl e]; exact if_pos rfl
        · have e2 : i = P := by omega
          subst e2
          rw [g_end_P]; exact if_pos rfl
      | some t =>
        have ht := hlt i t e
        have h2 := (htc t ht).2.1
        rw [Nat.zero_add] at h2
        show (if nI t = -1 then _ else if ((nI (g_mk (g_vi (g_ch (g_tc C s) p) i) P) >>> (nI t &&& 31)) &&& 1) = 0 then gs_gd (gs_in ((316 + (5 * nI t)) + nI s) 744) <| K (nI (g_mk (g_vi (g_ch (g_tc C s) p) i) P) ||| (1 <<< (nI t &&& 31))) (M ((316 + (5 * nI t)) + nI s).toNatClampNeg) else some (nI (g_mk (g_vi (g_ch (g_tc C s) p) i) P))) = _
        rw [if_neg (g_m1 (by omega))]
        cases hv : g_vi (g_ch (g_tc C s) p) i t with
        | true =>
          have hb : ¬ ((nI (g_mk (g_vi (g_ch (g_tc C s) p) i) P) >>> (nI t &&& 31)) &&& 1) = 0 := fun q => by
            have := (v_bit hmk (by omega)).mp q
            rw [g_mk_bit, hv] at this
            simp [ht] at this
          rw [if_neg hb]
          have hge := g_end_ge (ch := g_ch (g_tc C s) p) hi
          refine congrArg (fun z => some (nI z)) (g_mk_cong (fun k _ => ?_))
          have := g_vi_closed e hv (g_end (g_ch (g_tc C s) p) P i - i) k
          rw [show i + (g_end (g_ch (g_tc C s) p) P i - i) = g_end (g_ch (g_tc C s) p) P i by omega] at this
          exact this.symm
        | false =>
          have hb : ((nI (g_mk (g_vi (g_ch (g_tc C s) p) i) P) >>> (nI t &&& 31)) &&& 1) = 0 := (v_bit hmk (by omega)).mpr (by rw [g_mk_bit, hv, Bool.and_false])
          have hct' : g_ct (g_vi (g_ch (g_tc C s) p) (i + 1)) P = i + 1 := by
            have := g_ct_ins hv P
            rw [if_pos ht, hct] at this
            refine Eq.trans (g_ct_cong (fun k _ => ?_)) this
            show (g_vi (g_ch (g_tc C s) p) i k || g_ch (g_tc C s) p i == some k) = _
            rw [e]
          have hle := g_ct_le (g_vi (g_ch (g_tc C s) p) (i + 1)) P
          rw [if_pos hb, m_ixT0, gs_gd_t (gs_in_nI (by omega) (by decide)), nI_clamp (by omega), h2, ← g_ch_s e, g_mk_ins _ ht (by omega), hmask i t e, g_end_s (by omega) e]
          exact ih (i + 1) (by show P - (i + 1) < P - i; omega) (by omega) hct') gs_fuel 0 (by show P - 0 < gs_fuel; rw [gs_fuel_eq]; omega) (Nat.zero_le _) (g_ct_0.mpr (fun k _ => rfl))
  have hz : nI (g_mk (g_vi (g_ch (g_tc C s) p) 0) P) = 0 := by
    have z : g_mk (g_vi (g_ch (g_tc C s) p) 0) P = 0 := g_mk_0.mpr (fun k _ => rfl)
    rw [z]
    rfl
  refine ⟨nI (g_mk (g_vi (g_ch (g_tc C s) p) (g_end (g_ch (g_tc C s) p) P 0)) P), ?_, ?_⟩
  · unfold f_X10_taughtBy
    rw [g_teacher (by omega) (by omega), gs_b1_s, (htc p hp).1]
    have hc' : gs_it (fun _ _ _ => none) (f_X10_taughtBy_14 (nI s) (nI P) C) gs_fuel (nI (g_mk (g_vi (g_ch (g_tc C s) p) 0) P)) (g_oi (g_tc C s p)) (nI 0) = _ := hc
    rw [nI_0, hz] at hc'
    exact hc'
  · have h2 := (htc p hp).2.1
    rw [Nat.zero_add] at h2
    unfold f_X12_taughtBy
    rw [m_ixT0, gs_gd_t (gs_in_nI (by omega) (by decide)), nI_clamp (by omega), h2]
    have hm' : gs_it (fun _ _ => none) (f_X12_taughtBy_18 (nI s) M) gs_fuel (nI (g_mk (g_vi (g_ch (g_tc C s) p) 0) P)) (g_oi (g_tc C s p)) = _ := hm
    rw [hz] at hm'
    exact hm'
end V2
