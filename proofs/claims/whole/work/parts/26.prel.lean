/-! ===== pure rows: a row of the class and a row of the model say the same ===== -/
def g_cell (P n : Nat) (C M : Nat → Int32) (b p s : Nat) : Prop :=
  (∀ k, k < 8 → g_nt (C (8 + 5 * p + s)) k = M (b + (1 + 40 * p + 8 * s + k)) ∧ (M (b + (1 + 40 * p + 8 * s + k)) = -1 ∨ (k < n ∧ g_dg (M (b + (1 + 40 * p + 8 * s + k)))))) ∧
  M (b + 281 + 5 * p + s) = (if C (8 + 5 * p + s) = -1 then 0 else 1) ∧
  C (43 + 5 * p + s) = M (b + 316 + 5 * p + s) ∧ (C (43 + 5 * p + s) = -1 ∨ ∃ t, t < P ∧ C (43 + 5 * p + s) = nI t)
def g_sk (P S : Nat) (C M : Nat → Int32) (b p : Nat) : Prop :=
  (C (1 + p) = -1 ∧ M (b + 351 + p) = -1 ∧ M (b + 358 + p) = -1) ∨ ∃ s o, s < S ∧ o < P ∧ C (1 + p) = nI (7 * s + o) ∧ M (b + 351 + p) = nI s ∧ M (b + 358 + p) = nI o
def g_R (P S D : Nat) (len mem : Nat → Nat) (C M : Nat → Int32) (b : Nat) : Prop :=
  (∃ d, d ≤ D ∧ C 0 = nI d ∧ M b = nI d) ∧ (∀ p, p < P → ∀ s, s < S → g_cell P (len s) C M b p s) ∧ (∀ p, p < P → g_sk P S C M b p) ∧ (∀ p, p < P → M (b + 365 + p) = nI (mem p) ∧ mem p ≤ 9)
def g_T (P S : Nat) (len : Nat → Nat) (rF rL : Option (List Nat)) (L Fs W CC : Nat → Int32) (fF fT lF lT : Int32) (ML MF MW CM : Nat → Int32) (fA lA : Int32) : Prop :=
  P ≤ 7 ∧ S ≤ 5 ∧ (∀ s, s < S → L s = nI (len s) ∧ ML s = nI (len s) ∧ 1 ≤ len s ∧ len s ≤ 8) ∧ (∀ s, s < S → ∀ k, k < len s → g_nt (Fs s) k = MF (8 * s + k) ∧ g_dg (MF (8 * s + k))) ∧ (∀ p, p < P → W p = MW p) ∧ g_rule g_VF CC fF fT CM fA rF ∧ g_rule g_VL CC lF lT CM lA rL
theorem g_cell.of {P n : Nat} {C M C' M' : Nat → Int32} {b p s : Nat} (h : g_cell P n C M b p s) (h1 : C' (8 + 5 * p + s) = C (8 + 5 * p + s)) (h2 : C' (43 + 5 * p + s) = C (43 + 5 * p + s)) (h3 : ∀ k, k < 8 → M' (b + (1 + 40 * p + 8 * s + k)) = M (b + (1 + 40 * p + 8 * s + k))) (h4 : M' (b + 281 + 5 * p + s) = M (b + 281 + 5 * p + s)) (h5 : M' (b + 316 + 5 * p + s) = M (b + 316 + 5 * p + s)) : g_cell P n C' M' b p s := by
  obtain ⟨a1, a2, a3, a4⟩ := h
  refine ⟨fun k hk => ?_, ?_, ?_, ?_⟩
  · rw [h1, h3 k hk]; exact a1 k hk
  · rw [h1, h4]; exact a2
  · rw [h2, h5]; exact a3
  · rw [h2]; exact a4
theorem g_R.cell {P S D : Nat} {len mem : Nat → Nat} {C M C' M' : Nat → Int32} {b p s : Nat} (hP : P ≤ 7) (hS : S ≤ 5) (h : g_R P S D len mem C M b) (hp : p < P) (hs : s < S)
    (hC : ∀ j, j ≠ 8 + 5 * p + s → j ≠ 43 + 5 * p + s → C' j = C j)
    (hM : ∀ j, b ≤ j → (j < b + (1 + 40 * p + 8 * s) ∨ b + (1 + 40 * p + 8 * s) + 8 ≤ j) → j ≠ b + 281 + 5 * p + s → j ≠ b + 316 + 5 * p + s → M' j = M j)
    (hc : g_cell P (len s) C' M' b p s) : g_R P S D len mem C' M' b := by
  obtain ⟨⟨d, hd, d1, d2⟩, h2, h3, h4⟩ := h
  refine ⟨⟨d, hd, ?_, ?_⟩, fun p' hp' s' hs' => ?_, fun p' hp' => ?_, fun p' hp' => ?_⟩
  · rw [hC 0 (by omega) (by omega)]; exact d1
  · rw [hM b (by omega) (by omega) (by omega) (by omega)]; exact d2
  · by_cases e : p' = p ∧ s' = s
    · rw [e.1, e.2]; exact hc
    · exact (h2 p' hp' s' hs').of (hC _ (by omega) (by omega)) (hC _ (by omega) (by omega)) (fun k hk => hM _ (by omega) (by omega) (by omega) (by omega)) (hM _ (by omega) (by omega) (by omega) (by omega)) (hM _ (by omega) (by omega) (by omega) (by omega))
  · have e1 := hC (1 + p') (by omega) (by omega)
    have e2 := hM (b + 351 + p') (by omega) (by omega) (by omega) (by omega)
    have e3 := hM (b + 358 + p') (by omega) (by omega) (by omega) (by omega)
    have := h3 p' hp'
    unfold g_sk at this ⊢
    rw [e1, e2, e3]
    exact this
  · rw [hM (b + 365 + p') (by omega) (by omega) (by omega) (by omega)]; exact h4 p' hp'
theorem g_R.seek {P S D : Nat} {len mem : Nat → Nat} {C M C' M' : Nat → Int32} {b p : Nat} (hP : P ≤ 7) (hS : S ≤ 5) (h : g_R P S D len mem C M b) (hp : p < P)
    (hC : ∀ j, j ≠ 1 + p → C' j = C j) (hM : ∀ j, b ≤ j → j ≠ b + 351 + p → j ≠ b + 358 + p → M' j = M j) (hc : g_sk P S C' M' b p) : g_R P S D len mem C' M' b := by
  obtain ⟨⟨d, hd, d1, d2⟩, h2, h3, h4⟩ := h
  refine ⟨⟨d, hd, ?_, ?_⟩, fun p' hp' s' hs' => ?_, fun p' hp' => ?_, fun p' hp' => ?_⟩
  · rw [hC 0 (by omega)]; exact d1
  · rw [hM b (by omega) (by omega) (by omega)]; exact d2
  · exact (h2 p' hp' s' hs').of (hC _ (by omega)) (hC _ (by omega)) (fun k hk => hM _ (by omega) (by omega) (by omega)) (hM _ (by omega) (by omega) (by omega)) (hM _ (by omega) (by omega) (by omega))
  · by_cases e : p' = p
    · rw [e]; exact hc
    · have e1 := hC (1 + p') (by omega)
      have e2 := hM (b + 351 + p') (by omega) (by omega) (by omega)
      have e3 := hM (b + 358 + p') (by omega) (by omega) (by omega)
      have := h3 p' hp'
      unfold g_sk at this ⊢
      rw [e1, e2, e3]
      exact this
  · rw [hM (b + 365 + p') (by omega) (by omega) (by omega)]; exact h4 p' hp'
theorem g_R.day {P S D : Nat} {len mem : Nat → Nat} {C M : Nat → Int32} {b : Nat} (hP : P ≤ 7) (hS : S ≤ 5) (h : g_R P S D len mem C M b) : g_R P S (D + 1) len mem (upd C 0 (C 0 + 1)) (upd M b (M b + 1)) b := by
  obtain ⟨⟨d, hd, d1, d2⟩, h2, h3, h4⟩ := h
  refine ⟨⟨d + 1, by omega, ?_, ?_⟩, fun p' hp' s' hs' => ?_, fun p' hp' => ?_, fun p' hp' => ?_⟩
  · rw [pk_us, d1, nI_1]
  · rw [pk_us, d2, nI_1]
  · exact (h2 p' hp' s' hs').of (pk_un (by omega)) (pk_un (by omega)) (fun k hk => pk_un (by omega)) (pk_un (by omega)) (pk_un (by omega))
  · have := h3 p' hp'
    unfold g_sk at this ⊢
    rw [pk_un (show 1 + p' ≠ 0 by omega), pk_un (show b + 351 + p' ≠ b by omega), pk_un (show b + 358 + p' ≠ b by omega)]
    exact this
  · rw [pk_un (show b + 365 + p' ≠ b by omega)]; exact h4 p' hp'
/-- what follows of a cell -/
theorem g_cell.H {P n : Nat} {C M : Nat → Int32} {b p s : Nat} (h : g_cell P n C M b p s) : g_H C p s = m_H M b p s := by
  unfold g_H m_H
  rw [h.2.1]
  by_cases e : C (8 + 5 * p + s) = -1
  · rw [if_pos e, e]; rfl
  · rw [if_neg e]; simp [e]
theorem g_cell.nA {P n : Nat} {C M : Nat → Int32} {b p s : Nat} (h : g_cell P n C M b p s) {k : Nat} (hk : k < 8) : g_nA (C (8 + 5 * p + s)) k = m_nA M b p s k := by
  unfold g_nA m_nA
  rw [(h.1 k hk).1]
theorem g_cell.rd {P n : Nat} {C M : Nat → Int32} {b p s : Nat} (h : g_cell P n C M b p s) (hn : n ≤ 8) : g_rd C n p s = m_rd M b n p s := by
  unfold g_rd m_rd
  rw [h.H, g_mk_cong (fun k hk => h.nA (by omega))]
theorem g_H_iff {C : Nat → Int32} {p s : Nat} : g_H C p s = true ↔ C (8 + 5 * p + s) ≠ -1 := by
  unfold g_H
  simp
/-! ===== forgetting keeps it ===== -/
theorem g_oCM {P S D : Nat} {len mem : Nat → Nat} {C M W MW : Nat → Int32} {b p s : Nat} (rl : Option (List Nat)) (h : g_R P S D len mem C M b) (hp : p < P) (hs : s < S) (hW : W p = MW p) (hn : len s ≤ 8) : g_oC rl (nI (mem p)) W P (len s) C p s = g_oM rl MW P (len s) M b p s := by
  obtain ⟨⟨d, hd, d1, d2⟩, h2, h3, h4⟩ := h
  have hc := h2 p hp s hs
  unfold g_oC g_oM
  have e1 : g_ct (g_nA (C (8 + 5 * p + s))) (len s) = g_ct (m_nA M b p s) (len s) := g_ct_cong (fun k hk => hc.nA (by omega))
  have e2 : g_ct (fun o => g_H C o s && !(o == p)) P = g_ct (fun o => m_H M b o s && !(o == p)) P := g_ct_cong (fun o ho => by rw [(h2 o ho s hs).H])
  refine g_ff_cong _ _ (fun k _ hk => ?_)
  rw [hc.nA (by omega), (hc.1 k (by omega)).1, e1, e2, hW, d1, d2, (h4 p hp).1]
theorem g_oM_lt {rl : Option (List Nat)} {MW M : Nat → Int32} {P n b p s k : Nat} (h : g_oM rl MW P n M b p s = some k) : k < n := by
  have := (g_ff_some n 0 h).2.1
  omega
theorem g_mf_out {M : Nat → Int32} {b p s n j : Nat} (o : Option Nat) (ho : ∀ k, o = some k → k < 8) (h1 : j < b + (1 + 40 * p + 8 * s) ∨ b + (1 + 40 * p + 8 * s) + 8 ≤ j) (h2 : j ≠ b + 281 + 5 * p + s) : g_mf M b p s n o j = M j := by
  cases o with
  | none => rfl
  | some k =>
    have hk := ho k rfl
    rw [g_mf_s]
    split
    · rw [pk_un h2, g_cpy_out (by omega), pk_un (by omega)]
    · rw [pk_un (by omega)]
theorem g_R.forget {P S D : Nat} {len mem : Nat → Nat} {C M : Nat → Int32} {b p s : Nat} (hP : P ≤ 7) (hS : S ≤ 5) (h : g_R P S D len mem C M b) (hp : p < P) (hs : s < S) (hn : len s ≤ 8) (hH : g_H C p s = true) (o : Option Nat) (ho : ∀ k, o = some k → k < len s) : g_R P S D len mem (g_cf C p s o) (g_mf M b p s (len s) o) b := by
  refine h.cell hP hS hp hs (fun j h1 h2 => ?_) (fun j h0 h1 h2 h3 => g_mf_out o (fun k hk => by have := ho k hk; omega) h1 h2) ?_
  · cases o with
    | none => rfl
    | some k => exact pk_un h1
  · have hc := h.2.1 p hp s hs
    cases o with
    | none => exact hc
    | some k =>
      have hk := ho k rfl
      obtain ⟨a1, a2, a3, a4⟩ := hc
      have e43 : g_cf C p s (some k) (43 + 5 * p + s) = C (43 + 5 * p + s) := pk_un (by omega)
      have e8 : g_cf C p s (some k) (8 + 5 * p + s) = g_wn (C (8 + 5 * p + s)) k (-1) := pk_us
      have hx : ∀ j, j < 8 → g_nt (g_wn (C (8 + 5 * p + s)) k (-1)) j = upd M (b + (1 + 40 * p + 8 * s + k)) (-1) (b + (1 + 40 * p + 8 * s + j)) := by
        intro j hj
        rw [g_nt_wn _ _ (by omega) hj]
        by_cases e : j = k
        · rw [if_pos e, e, pk_us]; exact g_nt_m 0 (by omega)
        · rw [if_neg e, pk_un (by omega)]; exact (a1 j hj).1
      have hd : ∀ j, j < 8 → (upd M (b + (1 + 40 * p + 8 * s + k)) (-1) (b + (1 + 40 * p + 8 * s + j)) = -1 ∨ (j < len s ∧ g_dg (upd M (b + (1 + 40 * p + 8 * s + k)) (-1) (b + (1 + 40 * p + 8 * s + j))))) := by
        intro j hj
        by_cases e : j = k
        · rw [e, pk_us]; exact Or.inl rfl
        · rw [pk_un (by omega)]; exact (a1 j hj).2
      have hall : g_ct (m_nA (upd M (b + (1 + 40 * p + 8 * s + k)) (-1)) b p s) (len s) = len s ↔ g_wn (C (8 + 5 * p + s)) k (-1) = -1 := by
        rw [g_ct_all, g_hold]
        constructor
        · intro q j hj
          rw [hx j hj]
          rcases Nat.lt_or_ge j (len s) with hl | hl
          · have := q j hl
            unfold m_nA at this
            simpa using this
          · rcases hd j hj with h1 | h1
            · exact h1
            · omega
        · intro q j hj
          have := q j (by omega)
          rw [hx j (by omega)] at this
          unfold m_nA
          simp [this]
      have e316 : g_mf M b p s (len s) (some k) (b + 316 + 5 * p + s) = M (b + 316 + 5 * p + s) := g_mf_out _ (fun k hk => by have := ho k hk; omega) (by omega) (by omega)
      refine ⟨fun j hj => ?_, ?_, ?_, ?_⟩
      · rw [e8, hx j hj, g_mf_s]
        by_cases q : g_ct (m_nA (upd M (b + (1 + 40 * p + 8 * s + k)) (-1)) b p s) (len s) = len s
        · have em : upd (g_cpy (fun _ => -1) (upd M (b + (1 + 40 * p + 8 * s + k)) (-1)) (b + (1 + 40 * p + 8 * s)) 8) (b + 281 + 5 * p + s) 0 (b + (1 + 40 * p + 8 * s + j)) = -1 := by
            rw [pk_un (by omega), g_cpy_in (by omega) (by omega)]
          rw [if_pos q, em]
          have := g_hold.mp (hall.mp q) j hj
          rw [hx j hj] at this
          exact ⟨this, Or.inl rfl⟩
        · rw [if_neg q]
          exact ⟨rfl, hd j hj⟩
      · rw [e8, g_mf_s]
        by_cases q : g_ct (m_nA (upd M (b + (1 + 40 * p + 8 * s + k)) (-1)) b p s) (len s) = len s
        · rw [if_pos q, pk_us, if_pos (hall.mp q)]
        · rw [if_neg q, if_neg (fun z => q (hall.mpr z)), pk_un (by omega), a2, if_neg (g_H_iff.mp hH)]
      · rw [e43, e316]; exact a3
      · rw [e43]; exact a4
/-! ===== learning keeps it ===== -/
def g_cl (rl : Option (List Nat)) (W : Nat → Int32) (n : Nat) (C : Nat → Int32) (p s o : Nat) : Nat → Int32 := upd (upd C (8 + 5 * p + s) (g_mn (g_lv rl (W p) (C 0) (g_nt (C (8 + 5 * o + s))) n) n)) (43 + 5 * p + s) (nI o)
def g_ml (rl : Option (List Nat)) (MW : Nat → Int32) (n : Nat) (M : Nat → Int32) (b p s o : Nat) : Nat → Int32 := upd (upd (g_cpy (g_lv rl (MW p) (M b) (fun k => M (b + (1 + 40 * o + 8 * s + k))) n) M (b + (1 + 40 * p + 8 * s)) n) (b + 281 + 5 * p + s) 1) (b + 316 + 5 * p + s) (nI o)
theorem g_ml_out {rl : Option (List Nat)} {MW M : Nat → Int32} {n b p s o j : Nat} (hn : n ≤ 8) (h1 : j < b + (1 + 40 * p + 8 * s) ∨ b + (1 + 40 * p + 8 * s) + 8 ≤ j) (h2 : j ≠ b + 281 + 5 * p + s) (h3 : j ≠ b + 316 + 5 * p + s) : g_ml rl MW n M b p s o j = M j := by
  unfold g_ml
  rw [pk_un h3, pk_un h2, g_cpy_out (by omega)]
theorem g_R.lv {P S D : Nat} {len mem : Nat → Nat} {C M W MW : Nat → Int32} {b p s o : Nat} (rl : Option (List Nat)) (h : g_R P S D len mem C M b) (ho : o < P) (hs : s < S) (hW : W p = MW p) (hn : len s ≤ 8) {k : Nat} (hk : k < len s) : g_lv rl (W p) (C 0) (g_nt (C (8 + 5 * o + s))) (len s) k = g_lv rl (MW p) (M b) (fun k => M (b + (1 + 40 * o + 8 * s + k))) (len s) k ∧ g_dg (g_lv rl (W p) (C 0) (g_nt (C (8 + 5 * o + s))) (len s) k) := by
  obtain ⟨⟨d, hd, d1, d2⟩, h2, -, -⟩ := h
  have hc := h2 o ho s hs
  constructor
  · rw [hW, d1, d2]
    exact g_lv_cong rl _ _ (fun j hj => (hc.1 j (by omega)).1) k hk
  · refine g_lv_d (fun j hj => ?_) k hk
    rw [(hc.1 j (by omega)).1]
    rcases (hc.1 j (by omega)).2 with q | q
    · exact Or.inl q
    · exact Or.inr q.2
theorem g_R.learn {P S D : Nat} {len mem : Nat → Nat} {C M W MW : Nat → Int32} {b p s o : Nat} (rl : Option (List Nat)) (hP : P ≤ 7) (hS : S ≤ 5) (h : g_R P S D len mem C M b) (hp : p < P) (hs : s < S) (ho : o < P) (hn1 : 1 ≤ len s) (hn : len s ≤ 8) (hW : W p = MW p) : g_R P S D len mem (g_cl rl W (len s) C p s o) (g_ml rl MW (len s) M b p s o) b := by
  have hlv := fun k hk => h.lv rl (W := W) (MW := MW) (p := p) ho hs hW hn (k := k) hk
  refine h.cell hP hS hp hs (fun j h1 h2 => ?_) (fun j h0 h1 h2 h3 => g_ml_out hn h1 h2 h3) ?_
  · unfold g_cl
    rw [pk_un h2, pk_un h1]
  · obtain ⟨a1, a2, a3, a4⟩ := h.2.1 p hp s hs
    have hmn := g_mn_nt (len s) hn (fun k hk => (hlv k hk).2)
    have e8 : g_cl rl W (len s) C p s o (8 + 5 * p + s) = g_mn (g_lv rl (W p) (C 0) (g_nt (C (8 + 5 * o + s))) (len s)) (len s) := by
      unfold g_cl
      rw [pk_un (by omega), pk_us]
    have e43 : g_cl rl W (len s) C p s o (43 + 5 * p + s) = nI o := pk_us
    refine ⟨fun k hk => ?_, ?_, ?_, ?_⟩
    · have em : g_ml rl MW (len s) M b p s o (b + (1 + 40 * p + 8 * s + k)) = if k < len s then g_lv rl (MW p) (M b) (fun k => M (b + (1 + 40 * o + 8 * s + k))) (len s) k else M (b + (1 + 40 * p + 8 * s + k)) := by
        unfold g_ml
        rw [pk_un (by omega), pk_un (by omega)]
        by_cases q : k < len s
        · rw [if_pos q, g_cpy_in (by omega) (by omega)]
          exact congrArg _ (by omega)
        · rw [if_neg q, g_cpy_out (by omega)]
      rw [e8, hmn k hk, em]
      by_cases q : k < len s
      · rw [if_pos q, if_pos q, (hlv k q).1]
        refine ⟨rfl, Or.inr ⟨q, ?_⟩⟩
        rw [← (hlv k q).1]
        exact (hlv k q).2
      · rw [if_neg q, if_neg q]
        rcases (a1 k hk).2 with z | z
        · exact ⟨z.symm, Or.inl z⟩
        · exact absurd z.1 q
    · have ne : ¬ g_mn (g_lv rl (W p) (C 0) (g_nt (C (8 + 5 * o + s))) (len s)) (len s) = -1 := by
        intro z
        have := g_hold.mp z 0 (by omega)
        rw [hmn 0 (by omega), if_pos (by omega)] at this
        obtain ⟨d, hd, he⟩ := (hlv 0 (by omega)).2
        rw [he] at this
        exact g_m1 (by omega) this
      rw [e8, if_neg ne]
      unfold g_ml
      rw [pk_un (by omega), pk_us]
    · rw [e43]
      exact pk_us.symm
    · rw [e43]
      exact Or.inr ⟨o, ho, rfl⟩
