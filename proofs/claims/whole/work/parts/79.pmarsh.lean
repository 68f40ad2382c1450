/-! ===== pure rows: marsh ===== -/
def z_m0 (j : Nat) : Int32 := if j = 0 then 0 else if j < 281 then -1 else if j < 316 then 0 else if j < 365 then -1 else 0
theorem z_upd (x : Nat → Int32) (r : Nat → Int32) (i : Nat) : upd (fun j => if j < i then x j else r j) i (x i) = fun j => if j < i + 1 then x j else r j := by
  refine funext fun j => ?_
  unfold upd
  by_cases hj : j = i
  · rw [if_pos hj, if_pos (by omega), hj]
  · rw [if_neg hj]
    show (if j < i then x j else r j) = _
    by_cases hb : j < i
    · rw [if_pos hb, if_pos (by omega)]
    · rw [if_neg hb, if_neg (by omega)]
theorem z_start {c : Nat → Nat} {n : Nat} {va si : Int32} (hv : t_Cv c n 0 va si) (L Fs ME W CC ML MF MW CM r q : Nat → Int32) (fT lT : Int32) {C M TO IT : Nat → Int32} (hC : C = upd (fun j => if j < 78 then -1 else r j) 0 0) (hM : ∀ j, j < 372 → M j = z_m0 j) (hTO : ∀ j, j < 7 → TO j = 0) (hIT : ∀ j, j < 35 → IT j = 0) : z_I c n 0 0 0 0 0 (fun _ => 0) (fun _ => 0) none none va si (-1) fT (-1) lT (-1) (-1) L Fs ME W CC C TO ML MF MW M CM IT := by
  have hC0 : C 0 = 0 := by rw [hC, pk_us]
  have hC1 : ∀ j, 0 < j → j < 78 → C j = -1 := by
    intro j h1 h2
    rw [hC, pk_un (by omega)]
    exact if_pos h2
  refine ⟨⟨Nat.zero_le _, hv, Nat.zero_le _, Nat.zero_le _⟩, ⟨⟨by decide, by decide⟩, fun s hs => absurd hs (by omega), fun p hp => absurd hp (by omega), ⟨hC0, hM 0 (by omega)⟩, fun p hp s hs => ?_, fun p hp => ?_, fun p hp => ?_, fun p _ hp => hC1 _ (by omega) (by omega)⟩, ⟨rfl, rfl⟩, ⟨rfl, rfl⟩⟩
  · have m1 : ∀ k, k < 8 → M (1 + 40 * p + 8 * s + k) = -1 := fun k hk => by
      rw [hM _ (by omega)]
      unfold z_m0
      rw [if_neg (by omega), if_pos (by omega)]
    have m2 : M (281 + 5 * p + s) = 0 := by
      rw [hM _ (by omega)]
      unfold z_m0
      rw [if_neg (by omega), if_neg (by omega), if_pos (by omega)]
    have m3 : M (316 + 5 * p + s) = -1 := by
      rw [hM _ (by omega)]
      unfold z_m0
      rw [if_neg (by omega), if_neg (by omega), if_neg (by omega), if_pos (by omega)]
    have c1 : C (8 + 5 * p + s) = -1 := hC1 _ (by omega) (by omega)
    refine ⟨fun k hk => ⟨by rw [c1, m1 k hk, g_nt_m k hk], Or.inl (m1 k hk)⟩, by rw [m2, if_pos c1], hC1 _ (by omega) (by omega), m3, Or.inl (hIT _ (by omega)), fun _ => c1⟩
  · refine Or.inl ⟨hC1 _ (by omega) (by omega), ?_, ?_⟩
    · rw [hM _ (by omega)]
      unfold z_m0
      rw [if_neg (by omega), if_neg (by omega), if_neg (by omega), if_pos (by omega)]
    · rw [hM _ (by omega)]
      unfold z_m0
      rw [if_neg (by omega), if_neg (by omega), if_neg (by omega), if_pos (by omega)]
  · have : g_mk (fun s => IT (5 * p + s) == 1) 5 = 0 := g_mk_0.mpr fun k hk => by
      rw [hIT _ (by omega)]; rfl
    rw [this, hTO p hp]
    rfl
theorem z_rl.rule {V : Nat → Bool} {CC CM CC' CM' : Nat → Int32} {fr to at0 : Int32} {rl : Option (List Nat)} {ce top : Nat} (h : z_rl V CC fr to CM at0 rl ce top) (h3 : ∀ j, j < 700 → CC' j = CC j) (h4 : ∀ j, j < 1400 → CM' j = CM j) : g_rule V CC' fr to CM' at0 rl := by
  cases rl with
  | none => exact h
  | some c =>
    obtain ⟨i, k, e1, e2, e3, b1, b2, b3, b4, s1, s2, s3, s4⟩ := h
    have := m_ln_le c
    exact ⟨i, k, e1, e2, e3, b4, b3, g_seg_cong c i (fun j hj1 hj2 => h3 j (by omega)) s1, m_seg_cong c k (fun j hj1 hj2 => h4 j (by omega)) s2, s3, s4⟩
theorem va_cpy0 (a b : Nat → Int32) {n j : Nat} (h : j < n) : va_cpy a b 0 0 n j = a j := by
  simp only [va_cpy, Nat.zero_add, Nat.sub_zero]
  rw [if_pos ⟨Nat.zero_le _, h⟩]
theorem z_done {c : Nat → Nat} {n a S P ce top : Nat} {len mem : Nat → Nat} {rF rL : Option (List Nat)} {va si fF fT lF lT fA lA : Int32} {L Fs ME W CC C TO ML MF MW M CM IT : Nat → Int32} (hI : z_I c n a S P ce top len mem rF rL va si fF fT lF lT fA lA L Fs ME W CC C TO ML MF MW M CM IT) (l1 l2 l3 l4 l5 l6 m1 m2 m3 m4 m5 : Nat → Int32) :
    g_T P S len rF rL (va_cpy L l1 0 0 5) (va_cpy Fs l2 0 0 5) (va_cpy W l4 0 0 7) (va_cpy CC l5 0 0 700) fF fT lF lT (g_cpy ML m1 0 5) (g_cpy MF m2 0 40) (g_cpy MW m3 0 7) (g_cpy CM m4 0 1400) fA lA ∧ (∀ p, p < P → va_cpy ME l3 0 0 7 p = nI (mem p)) ∧ g_R P S 9999 len mem (g_cpy C l6 0 78) (g_cpy M m5 0 372) 0 := by
  obtain ⟨-, ⟨⟨hS, hP⟩, z1, z2, z3, z4, z5, z6, z7⟩, r1, r2⟩ := hI
  have gc : ∀ {a b : Nat → Int32} {m j : Nat}, j < m → g_cpy a b 0 m j = a j := fun {a b m j} h => by
    rw [g_cpy_in (Nat.zero_le _) (by omega), Nat.sub_zero]
  refine ⟨⟨hP, hS, fun s hs => ?_, fun s hs k hk => ?_, fun p hp => ?_, r1.rule (fun j hj => va_cpy0 _ _ hj) (fun j hj => gc hj), r2.rule (fun j hj => va_cpy0 _ _ hj) (fun j hj => gc hj)⟩, fun p hp => ?_, ⟨0, by omega, ?_, ?_⟩, fun p hp s hs => ?_, fun p hp => ?_, fun p hp => ?_⟩
  · obtain ⟨x1, x2, x3, x4, -⟩ := z1 s hs
    rw [va_cpy0 _ _ (by omega), gc (by omega)]
    exact ⟨x1, x2, x3, x4⟩
  · obtain ⟨x1, x2, x3, x4, x5, x6⟩ := z1 s hs
    rw [va_cpy0 _ _ (by omega), gc (by omega)]
    have := x5 k (by omega)
    rw [if_pos hk] at this
    exact ⟨this, x6 k hk⟩
  · rw [va_cpy0 _ _ (by omega), gc (by omega)]
    exact (z2 p hp).1
  · rw [va_cpy0 _ _ (by omega)]
    exact (z2 p hp).2.1
  · rw [gc (by omega)]
    exact z3.1
  · rw [gc (by omega)]
    exact z3.2
  · obtain ⟨y1, y2, y3, y4, y5, y6⟩ := z4 p (by omega) s (by omega)
    refine ⟨fun k hk => ?_, ?_, ?_, ?_⟩
    · rw [gc (by omega), gc (by omega), Nat.zero_add]
      refine ⟨(y1 k hk).1, ?_⟩
      rcases (y1 k hk).2 with z | ⟨-, w1, w2⟩
      · exact Or.inl z
      · exact Or.inr ⟨w1, w2⟩
    · rw [gc (by omega), gc (by omega), Nat.zero_add]
      exact y2
    · rw [gc (by omega), gc (by omega), Nat.zero_add, y3, y4]
    · rw [gc (by omega)]
      exact Or.inl y3
  · have := z5 p (by omega)
    unfold g_sk at this ⊢
    rw [gc (by omega), gc (by omega), gc (by omega)]
    exact this
  · rw [gc (by omega), Nat.zero_add]
    exact ⟨(z2 p hp).2.2.1, (z2 p hp).2.2.2⟩
theorem z_row (th songs people forgetsAt fillsAt taped faultKind faultPlace long1 next0 sort place long0 value sign : Int32) (word : Int64) (newSongs newPeople newForgetsAt newFillsAt firstValue lastValue waiting depth acts heardMany hasImage : Int32) (songLong firstNote wit code tape refused newSongLong newFirstNote newWit readCode waits tested isTold rows : Nat → Int32) K (row : Nat → Int32) : gs_it (fun _ _ => none) (f_X12_marsh_79 th songs people forgetsAt fillsAt taped faultKind faultPlace long1 next0 sort place long0 value sign word newSongs newPeople newForgetsAt newFillsAt firstValue lastValue waiting depth acts heardMany hasImage songLong firstNote wit code tape refused newSongLong newFirstNote newWit readCode waits tested isTold rows K) gs_fuel 0 row = K (fun j => if j < 372 then z_m0 j else row j) := by
  refine g_lb 372 (fun i => fun j => if j < i then z_m0 j else row j) (by omega) (funext fun j => (if_neg (Nat.not_lt_zero j)).symm) (fun G i hi => ?_) (fun G => ?_)
  · have hm : ∀ (v : Int32), v = z_m0 i → upd (fun j => if j < i then z_m0 j else row j) i v = fun j => if j < i + 1 then z_m0 j else row j := fun v hv => by
      rw [hv, z_upd]
    unfold f_X12_marsh_79 f_X12_marsh_105
    rw [if_neg (show ¬ (372 : Int32) ≤ nI i from nI_ge (b := 372) hi (by omega)), gs_gd_t (gs_in_nI hi (by decide)), gs_gd_t (gs_in_nI hi (by decide)), nI_clamp (by omega), nI_1]
    by_cases h0 : i = 0
    · have e0 : nI i = 0 := by rw [h0]; rfl
      rw [if_pos (show nI i < 281 from nI_lt (b := 281) (by omega) (by omega)), if_pos e0]
      refine congrArg (G (nI (i + 1))) (hm _ ?_)
      unfold z_m0
      rw [if_pos h0]
    · have e0 : nI i ≠ 0 := n_ne 0 0 rfl (by omega) (by decide) h0
      rw [if_neg e0]
      rcases Nat.lt_or_ge i 281 with h1 | h1
      · rw [if_pos (show nI i < 281 from nI_lt (b := 281) h1 (by omega)), if_pos (show nI i < 365 from nI_lt (b := 365) (by omega) (by omega))]
        refine congrArg (G (nI (i + 1))) (hm _ ?_)
        unfold z_m0
        rw [if_neg h0, if_pos h1]
      · rw [if_neg (show ¬ nI i < 281 from nI_nlt (b := 281) h1 (by omega))]
        rcases Nat.lt_or_ge i 316 with h2 | h2
        · rw [if_pos (show nI i < 316 from nI_lt (b := 316) h2 (by omega))]
          refine congrArg (G (nI (i + 1))) (hm _ ?_)
          unfold z_m0
          rw [if_neg h0, if_neg (by omega), if_pos h2]
        · rw [if_neg (show ¬ nI i < 316 from nI_nlt (b := 316) h2 (by omega))]
          rcases Nat.lt_or_ge i 365 with h3 | h3
          · rw [if_pos (show nI i < 365 from nI_lt (b := 365) h3 (by omega))]
            refine congrArg (G (nI (i + 1))) (hm _ ?_)
            unfold z_m0
            rw [if_neg h0, if_neg (by omega), if_neg (by omega), if_pos h3]
          · rw [if_neg (show ¬ nI i < 365 from nI_nlt (b := 365) h3 (by omega))]
            refine congrArg (G (nI (i + 1))) (hm _ ?_)
            unfold z_m0
            rw [if_neg h0, if_neg (by omega), if_neg (by omega), if_neg (by omega)]
  · unfold f_X12_marsh_79
    rw [if_pos (show (372 : Int32) ≤ nI 372 from by decide)]
theorem z_told (th songs people forgetsAt fillsAt taped faultKind faultPlace long1 next0 sort place long0 value sign : Int32) (word : Int64) (newSongs newPeople newForgetsAt newFillsAt firstValue lastValue waiting depth acts heardMany hasImage : Int32) (songLong firstNote wit code tape refused newSongLong newFirstNote newWit newRow readCode waits tested rows : Nat → Int32) K (isT : Nat → Int32) : gs_it (fun _ _ => none) (f_X12_marsh_130 th songs people forgetsAt fillsAt taped faultKind faultPlace long1 next0 sort place long0 value sign word newSongs newPeople newForgetsAt newFillsAt firstValue lastValue waiting depth acts heardMany hasImage songLong firstNote wit code tape refused newSongLong newFirstNote newWit newRow readCode waits tested rows K) gs_fuel 0 isT = K (fun j => if j < 35 then 0 else isT j) := by
  refine g_lb 35 (fun i => fun j => if j < i then 0 else isT j) (by omega) (funext fun j => (if_neg (Nat.not_lt_zero j)).symm) (fun G i hi => ?_) (fun G => ?_)
  · unfold f_X12_marsh_130
    rw [if_neg (show ¬ (35 : Int32) ≤ nI i from nI_ge (b := 35) hi (by omega)), gs_gd_t (gs_in_nI hi (by decide)), nI_clamp (by omega), nI_1, show vp_nar .boolean 0 = 0 from rfl]
    exact congrArg (G (nI (i + 1))) (z_upd (fun _ => 0) isT i)
  · unfold f_X12_marsh_130
    rw [if_pos (show (35 : Int32) ≤ nI 35 from by decide)]
