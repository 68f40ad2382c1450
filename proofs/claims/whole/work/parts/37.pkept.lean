/-! ===== pure rows: kept ===== -/
theorem g_clr0 : ∀ a, a < 256 → ∀ k, k < 8 → (nI a &&& (((1 : Int32) <<< (nI k &&& 31)) ^^^ (-1))) = nI (a &&& (255 - 2 ^ k)) := by decide +kernel
theorem g_clr1 : ∀ k, k < 8 → ∀ j, j < 8 → (255 - 2 ^ k).testBit j = !(j == k) := by decide +kernel
theorem g_clr (g : Nat → Bool) {n k : Nat} (hn : n ≤ 8) (hk : k < 8) : (nI (g_mk g n) &&& (((1 : Int32) <<< (nI k &&& 31)) ^^^ (-1))) = nI (g_mk (fun j => g j && !(j == k)) n) := by
  rw [g_clr0 _ (g_mk_256 g hn) k hk]
  refine congrArg nI ?_
  apply Nat.eq_of_testBit_eq
  intro i
  rw [Nat.testBit_and, g_mk_bit, g_mk_bit]
  rcases Nat.lt_or_ge i n with hi | hi
  · rw [g_clr1 k hk i (by omega)]
    simp [hi]
  · simp [show ¬ i < n by omega]
theorem g_ones : ∀ n, n < 9 → ((1 : Int32) <<< (nI n &&& 31)) - 1 = nI (g_mk (fun _ => true) n) := by decide +kernel
theorem g_ff_ct {g : Nat → Bool} {n : Nat} : g_ff g n 0 = none ↔ g_ct g n = 0 := by
  rw [g_ct_0]
  constructor
  · intro h k hk
    exact g_ff_none n 0 h k (Nat.zero_le _) (by omega)
  · intro h
    cases e : g_ff g n 0 with
    | none => rfl
    | some k =>
      obtain ⟨h1, h2, h3⟩ := g_ff_some n 0 e
      rw [h k (by omega)] at h3
      cases h3
/-- one has the song and another note there than the first -/
def g_bd (C Fs : Nat → Int32) (s k p : Nat) : Bool := g_H C p s && !(g_nt (C (8 + 5 * p + s)) k == g_nt (Fs s) k)
section KP
variable {P S D : Nat} {len mem : Nat → Nat} {rF rL : Option (List Nat)} {C M L Fs W CC ML MF MW CM mems : Nat → Int32} {fF fT lF lT fA lA pr pm th : Int32}
theorem v_allKeep {s k : Nat} (hs : s < 5) (hk : k < 8) (hP : P ≤ 7) : f_X10_allKeep (nI s) (nI k) (nI P) Fs C = some (if g_ct (g_bd C Fs s k) P = 0 then 1 else 0) := by
  unfold f_X10_allKeep
  rw [gs_gd_t (gs_in_nI hs (by decide)), nI_clamp (by omega), g_noteAt _ hk, gs_b1_s]
  have h := g_run (z := fun _ => none) (b := f_X10_allKeep_18 (nI s) (nI k) (g_nt (Fs s) k) (nI P) C) (ρ := Int32) (σ := Nat) (fun K i => K (nI i)) (fun i => P - i) (fun i r => i ≤ P → r = some (if g_ff (g_bd C Fs s k) (P - i) i = none then 1 else 0))
    (fun K i ih hi => by
      show f_X10_allKeep_18 (nI s) (nI k) (g_nt (Fs s) k) (nI P) C K (nI i) = _
      unfold f_X10_allKeep_18
      rcases Nat.lt_or_ge i P with hl | hl
      · obtain ⟨m, hm⟩ : ∃ m, P - i = m + 1 := ⟨P - i - 1, by omega⟩
        have hm' : P - (i + 1) = m := by omega
        rw [if_neg (nI_ge hl (by omega)), g_holdsB (by omega) hs, gs_b1_s, hm, g_ff, nI_1]
        have go := ih (i + 1) (by show P - (i + 1) < P - i; omega) (by omega)
        rw [hm'] at go
        by_cases e : g_H C i s = true
        · rw [if_pos e, if_neg n10, g_notes (by omega) hs, gs_b1_s, g_noteAt _ hk, gs_b1_s]
          by_cases e2 : g_nt (C (8 + 5 * i + s)) k = g_nt (Fs s) k
          · rw [if_pos e2, if_neg (c := g_bd C Fs s k i = true) (by simp [g_bd, e2])]
            exact go
          · rw [if_neg e2, if_pos (c := g_bd C Fs s k i = true) (by simp [g_bd, e, e2]), if_neg (Option.some_ne_none i)]
        · rw [if_neg e, if_pos rfl, if_neg (c := g_bd C Fs s k i = true) (by simp [g_bd, e])]
          exact go
      · have e : i = P := by omega
        subst e
        rw [if_pos (nI_le (Nat.le_refl _) (by omega)), Nat.sub_self]
        rfl) gs_fuel 0 (by show P - 0 < gs_fuel; rw [gs_fuel_eq]; omega) (Nat.zero_le _)
  have h' : gs_it (fun _ => none) (f_X10_allKeep_18 (nI s) (nI k) (g_nt (Fs s) k) (nI P) C) gs_fuel (nI 0) = some (if g_ff (g_bd C Fs s k) P 0 = none then 1 else 0) := h
  rw [nI_0] at h'
  rw [h']
  by_cases e : g_ct (g_bd C Fs s k) P = 0
  · rw [if_pos e, if_pos (g_ff_ct.mpr e)]
  · rw [if_neg e, if_neg (fun z => e (g_ff_ct.mp z))]
theorem v_keptC {s n : Nat} (hs : s < 5) (hP : P ≤ 7) (hl : L s = nI n) (hn : n ≤ 8) : f_X10_keptPlaces (nI s) (nI P) L Fs C = some (if g_mk (fun p => g_H C p s) P = 0 then -1 else nI (g_mk (fun k => g_ct (g_bd C Fs s k) P == 0) n)) := by
  unfold f_X10_keptPlaces
  rw [g_singers hs hP, gs_b1_s]
  by_cases e : g_mk (fun p => g_H C p s) P = 0
  · rw [if_pos ((m_mk0 (by omega)).mpr e), if_pos e]
  · rw [if_neg (fun z => e ((m_mk0 (by omega)).mp z)), if_neg e]
    refine g_la n (fun i => nI (g_mk (fun k => g_ct (g_bd C Fs s k) P == 0) i)) (by omega) rfl (fun K i hi => ?_) (fun K => ?_)
    · unfold f_X10_keptPlaces_16
      rw [gs_gd_t (gs_in_nI hs (by decide)), nI_clamp (by omega), hl, if_neg (nI_ge hi (by omega)), v_allKeep hs (by omega) hP, gs_b1_s, nI_1 i]
      by_cases e2 : g_ct (g_bd C Fs s i) P = 0
      · rw [if_pos e2, if_neg n10, g_mk_t (g := fun k => g_ct (g_bd C Fs s k) P == 0) (by omega) (by simp [e2])]
      · rw [if_neg e2, if_pos rfl, g_mk_f (g := fun k => g_ct (g_bd C Fs s k) P == 0) (i := i) (by simp [e2])]
    · unfold f_X10_keptPlaces_16
      rw [gs_gd_t (gs_in_nI hs (by decide)), nI_clamp (by omega), hl, if_pos (nI_le (Nat.le_refl _) (by omega))]
theorem o_kept (hT : g_T P S len rF rL L Fs W CC fF fT lF lT ML MF MW CM fA lA) (hm : ∀ p, p < P → f_X1_memoryOf (nI p) pr pm mems = some (nI (mem p))) (hR : g_R P S D len mem C M 0) (x y z : Int32) (tg fo ln fn : Int32) (v t tr u q : Nat → Int32) :
    g_agW id M (f_X11_kept x y z (nI S) (nI P) fF fT lF lT L Fs mems W CC C tg fo pr pm v t tr) (f_X12_kept x y z th (nI S) (nI P) fA lA 0 ln fn ML MF MW CM M u q) := by
  obtain ⟨hP, hS, hlen, hF, hW, -, -⟩ := id hT
  unfold f_X11_kept f_X12_kept
  rcases n_song hS x with ⟨s, hs, e⟩ | ⟨e1, e2⟩
  · subst e
    have hl := hlen s hs
    rw [(n_song_t hs hS).1, (n_song_t hs hS).2, g_bx1_r, g_b2_s, if_neg n10]
    rcases n_what2 z with ⟨k, hk, e, e1, e2⟩ | ⟨e1, e2⟩
    · subst e
      rw [e1, e2, g_bx1_r, g_b2_s, if_neg n10]
      rcases n_days y with ⟨n, hn, e, e1, e2, -⟩ | ⟨e1, e2, -⟩
      · subst e
        obtain ⟨v', t', c1⟩ := s_foresee hT hm hR (n := n) (by omega) tg fo v t tr
        obtain ⟨l', f', u', q', m1⟩ := s_goesTo hT hR (n := n) (by omega) ln fn u q
        obtain ⟨hr, hlo⟩ := s_rel hT hR tr n
        rw [e1, e2, g_bx1_r, g_b2_s, if_neg n10, c1, m1, g_b5_s, g_b5_s]
        generalize g_cS rF rL mem W P S len (g_cpy C tr 0 78) n = C1 at hr ⊢
        generalize m_S rF rL MW P S len 372 (g_cpy M M 372 372) n = M1 at hr hlo ⊢
        have e3 : f_X12_whoHave 372 (nI s) (nI P) M1 = some (nI (g_mk (fun p => m_H M1 372 p s) P)) := m_whoHave (b := 372) (by omega) (by omega) hP
        rw [e3, gs_b1_s, gs_gd_t (gs_in_nI (by omega) (by decide)), nI_clamp (n := s) (by omega), hl.2.1, g_ones (len s) (by omega)]
        have hmk : g_mk (fun p => m_H M1 372 p s) P < 128 := Nat.lt_of_lt_of_le (g_mk_lt _ P) (Nat.pow_le_pow_right (by decide) hP)
        have hloop : gs_it (fun _ _ _ => none) (f_X12_kept_67 (nI s) (nI k) (nI (g_mk (fun p => m_H M1 372 p s) P)) 0 (nI P) l' f' ML MF M1 u' q' (fun (x5' : Int32) (x6' : Int32) => f_X12_kept_184 (nI k) (nI (g_mk (fun p => m_H M1 372 p s) P)) x5' x6' 0 l' f' M1 u' q')) gs_fuel (nI (g_mk (fun _ => true) (len s))) 0 0 = f_X12_kept_184 (nI k) (nI (g_mk (fun p => m_H M1 372 p s) P)) (nI (g_mk (fun k => g_ct (g_bd C1 Fs s k) P == 0) (len s))) (nI (g_mk (fun p => m_rd M1 372 (len s) p s) P)) 0 l' f' M1 u' q' := by
          refine g_la2 P (fun i => nI (g_mk (fun k => g_ct (g_bd C1 Fs s k) i == 0) (len s))) (fun i => nI (g_mk (fun p => m_rd M1 372 (len s) p s) i)) (by omega) (congrArg nI (g_mk_cong (fun k _ => rfl))) rfl (fun K i hi => ?_) (fun K => ?_)
          · unfold f_X12_kept_67
            rw [if_neg (nI_ge hi (by omega))]
            have hb := v_bit hmk (t := i) (by omega)
            rw [g_mk_bit] at hb
            have hH := v_H hr hi hs
            by_cases e : m_H M1 372 i s = true
            · rw [if_neg (fun z => by have := hb.mp z; simp [hi, e] at this)]
              have e4 : f_X12_canTeach 372 (nI i) (nI s) ML M1 = some (if m_rd M1 372 (len s) i s = true then 1 else 0) := m_canTeach (b := 372) (by omega) (by omega) (by omega) hl.2.1 hl.2.2.2
              have hin : ∀ x6 : Int32, gs_it (fun _ _ => none) (f_X12_kept_118 (nI s) (nI k) (nI (g_mk (fun p => m_H M1 372 p s) P)) x6 (nI i) 0 (nI P) l' f' ML MF M1 u' q' (fun (x5' : Int32) => f_X12_kept_178 (fun (x5' : Int32) (x6' : Int32) (x7' : Int32) => K x5' x6' x7') (nI s) (nI k) (nI (g_mk (fun p => m_H M1 372 p s) P)) x5' x6 (nI i) 0 (nI P) l' f' ML MF M1 u' q')) gs_fuel (nI (g_mk (fun k => g_ct (g_bd C1 Fs s k) i == 0) (len s))) 0 = K (nI (g_mk (fun k => g_ct (g_bd C1 Fs s k) (i + 1) == 0) (len s))) x6 (nI (i + 1)) := by
                intro x6
                refine g_la (len s) (fun j => nI (g_mk (fun k => (g_ct (g_bd C1 Fs s k) i == 0) && (decide (j ≤ k) || !g_bd C1 Fs s k i)) (len s))) (by omega) (congrArg nI (g_mk_cong (fun k _ => by simp))) (fun K2 j hj => ?_) (fun K2 => ?_)
                · unfold f_X12_kept_118
                  have e5 : (372 : Int32) + nI (1 + 40 * i + 8 * s + j) = nI (372 + (1 + 40 * i + 8 * s + j)) := nI_add 372 _
                  have e6 : (8 : Int32) * nI s + nI j = nI (8 * s + j) := by
                    show nI 8 * nI s + nI j = _
                    rw [gs_mul, nI_add]
                  rw [gs_gd_t (gs_in_nI (by omega) (by decide)), nI_clamp (n := s) (by omega), hl.2.1, if_neg (nI_ge hj (by omega)), m_noteAt, gs_b1_s, e5, e6, gs_gd_t (gs_in_nI (by omega) (by decide)), gs_gd_t (gs_in_nI (by omega) (by decide)), nI_clamp (by omega), nI_clamp (by omega), nI_1 j, ← ((hr.2.1 i hi s hs).1 j (by omega)).1, ← (hF s hs j hj).1]
                  by_cases e7 : g_nt (C1 (8 + 5 * i + s)) j = g_nt (Fs s) j
                  · have e8 : g_bd C1 Fs s j i = false := by simp [g_bd, e7]
                    rw [if_pos e7]
                    refine congrArg (fun w => K2 (nI w) (nI (j + 1))) (g_mk_cong (fun c hc => ?_))
                    by_cases e9 : c = j
                    · subst e9
                      simp [e8]
                    · rw [show decide (j ≤ c) = decide (j + 1 ≤ c) from decide_eq_decide.mpr (by omega)]
                  · have e8 : g_bd C1 Fs s j i = true := by simp [g_bd, hH, e, e7]
                    rw [if_neg e7, g_clr _ hl.2.2.2 (by omega)]
                    refine congrArg (fun w => K2 (nI w) (nI (j + 1))) (g_mk_cong (fun c hc => ?_))
                    by_cases e9 : c = j
                    · subst e9
                      simp [e8]
                    · rw [show decide (j ≤ c) = decide (j + 1 ≤ c) from decide_eq_decide.mpr (by omega), beq_eq_false_iff_ne.mpr e9, Bool.not_false, Bool.and_true]
                · unfold f_X12_kept_118
                  rw [gs_gd_t (gs_in_nI (by omega) (by decide)), nI_clamp (n := s) (by omega), hl.2.1, if_pos (nI_le (Nat.le_refl _) (by omega))]
                  show f_X12_kept_178 (fun (x5' : Int32) (x6' : Int32) (x7' : Int32) => K x5' x6' x7') (nI s) (nI k) _ _ x6 (nI i) 0 (nI P) l' f' ML MF M1 u' q' = _
                  unfold f_X12_kept_178
                  dsimp only
                  rw [nI_1 i]
                  refine congrArg (fun w => K (nI w) x6 (nI (i + 1))) (g_mk_cong (fun c hc => ?_))
                  rw [g_ct, decide_eq_false (by omega), Bool.false_or]
                  cases g_bd C1 Fs s c i <;> simp
              rw [e4, gs_b1_s]
              by_cases e5 : m_rd M1 372 (len s) i s = true
              · rw [if_pos e5, if_neg n10, g_mk_t (g := fun p => m_rd M1 372 (len s) p s) (by omega) e5]
                exact hin _
              · rw [if_neg e5, if_pos rfl, g_or0, g_mk_f (g := fun p => m_rd M1 372 (len s) p s) (i := i) (Bool.eq_false_iff.mpr e5)]
                exact hin _
            · rw [if_pos (hb.mpr (by simp [e]))]
              unfold f_X12_kept_178
              dsimp only
              rw [nI_1 i, ← g_mk_f (g := fun p => m_rd M1 372 (len s) p s) (i := i) (by simp [m_rd, e])]
              refine congrArg (fun w => K (nI w) _ (nI (i + 1))) (g_mk_cong (fun c hc => ?_))
              have : g_bd C1 Fs s c i = false := by simp [g_bd, hH, e]
              rw [g_ct, this]
              simp
          · unfold f_X12_kept_67
            exact if_pos (nI_le (Nat.le_refl _) (by omega))
        rw [hloop]
        unfold f_X12_kept_184
        left
        have hc : k = 0 ∨ k = 1 := by omega
        rcases hc with h | h <;> subst h
        · rw [if_pos nI_0, if_neg (c := nI 0 = 1) (by decide), v_keptC (by omega) hP hl.1 hl.2.2.2, gs_b1_s, v_who hr hs]
          by_cases e : g_mk (fun p => m_H M1 372 p s) P = 0
          · rw [if_pos e, if_pos ((m_mk0 (by omega)).mpr e)]
            exact ⟨_, _, _, _, _, _, _, _, _, _, _, rfl, rfl, hlo⟩
          · rw [if_neg e, if_neg (fun z => e ((m_mk0 (by omega)).mp z))]
            exact ⟨_, _, _, _, _, _, _, _, _, _, _, rfl, rfl, hlo⟩
        · rw [if_neg (c := nI 1 = 0) (by decide), if_pos (c := nI 1 = 1) (by decide), g_readyTeachers (by omega) hP hl.1 hl.2.2.2, gs_b1_s, g_mk_cong (h := fun p => m_rd M1 372 (len s) p s) (fun p hp => (hr.2.1 p hp s hs).rd hl.2.2.2)]
          exact ⟨_, _, _, _, _, _, _, _, _, _, _, rfl, rfl, hlo⟩
      · rw [e1, e2, g_bx1_l, g_b2_s, if_pos rfl]
        exact g_agW.no (Or.inr rfl) rfl
    · rw [e1, e2, g_bx1_l, g_b2_s, if_pos rfl]
      exact g_agW.no (Or.inl rfl) rfl
  · rw [e1, e2, g_bx1_l, g_b2_s, if_pos rfl]
    exact g_agW.no (Or.inl rfl) rfl
end KP
