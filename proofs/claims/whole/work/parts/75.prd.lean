/-! ===== pure rows: what is told, line by line ===== -/
def z_cl (S : Nat) (len : Nat → Nat) (C M IT : Nat → Int32) (p s : Nat) : Prop :=
  (∀ k, k < 8 → g_nt (C (8 + 5 * p + s)) k = M (1 + 40 * p + 8 * s + k) ∧ (M (1 + 40 * p + 8 * s + k) = -1 ∨ (s < S ∧ k < len s ∧ g_dg (M (1 + 40 * p + 8 * s + k))))) ∧
  M (281 + 5 * p + s) = (if C (8 + 5 * p + s) = -1 then 0 else 1) ∧ C (43 + 5 * p + s) = -1 ∧ M (316 + 5 * p + s) = -1 ∧ (IT (5 * p + s) = 0 ∨ IT (5 * p + s) = 1) ∧ (IT (5 * p + s) = 0 → C (8 + 5 * p + s) = -1)
def z_Z (S P : Nat) (len mem : Nat → Nat) (L Fs ME W C TO ML MF MW M IT : Nat → Int32) : Prop :=
  (S ≤ 5 ∧ P ≤ 7) ∧
  (∀ s, s < S → L s = nI (len s) ∧ ML s = nI (len s) ∧ 1 ≤ len s ∧ len s ≤ 8 ∧ (∀ k, k < 8 → g_nt (Fs s) k = if k < len s then MF (8 * s + k) else -1) ∧ ∀ k, k < len s → g_dg (MF (8 * s + k))) ∧
  (∀ p, p < P → W p = MW p ∧ ME p = nI (mem p) ∧ M (365 + p) = nI (mem p) ∧ mem p ≤ 9) ∧
  (C 0 = 0 ∧ M 0 = 0) ∧
  (∀ p, p < 7 → ∀ s, s < 5 → z_cl S len C M IT p s) ∧
  (∀ p, p < 7 → g_sk P S C M 0 p) ∧
  (∀ p, p < 7 → TO p = nI (g_mk (fun s => IT (5 * p + s) == 1) 5)) ∧ (∀ p, P ≤ p → p < 7 → C (1 + p) = -1)
theorem z_cl.of {S S' : Nat} {len len' : Nat → Nat} {C M IT C' M' IT' : Nat → Int32} {p s : Nat} (h : z_cl S len C M IT p s) (hS : s < S → s < S' ∧ len' s = len s) (h1 : C' (8 + 5 * p + s) = C (8 + 5 * p + s)) (h2 : C' (43 + 5 * p + s) = C (43 + 5 * p + s)) (h3 : ∀ k, k < 8 → M' (1 + 40 * p + 8 * s + k) = M (1 + 40 * p + 8 * s + k)) (h4 : M' (281 + 5 * p + s) = M (281 + 5 * p + s)) (h5 : M' (316 + 5 * p + s) = M (316 + 5 * p + s)) (h6 : IT' (5 * p + s) = IT (5 * p + s)) : z_cl S' len' C' M' IT' p s := by
  obtain ⟨a1, a2, a3, a4, a5, a6⟩ := h
  refine ⟨fun k hk => ?_, ?_, ?_, ?_, ?_, ?_⟩
  · rw [h1, h3 k hk]
    refine ⟨(a1 k hk).1, ?_⟩
    rcases (a1 k hk).2 with z | ⟨z1, z2, z3⟩
    · exact Or.inl z
    · exact Or.inr ⟨(hS z1).1, by rw [(hS z1).2]; exact z2, z3⟩
  · rw [h1, h4]; exact a2
  · rw [h2]; exact a3
  · rw [h5]; exact a4
  · rw [h6]; exact a5
  · rw [h6, h1]; exact a6
theorem g_sk.mono {P S P' S' : Nat} {C M C' M' : Nat → Int32} {p : Nat} (h : g_sk P S C M 0 p) (hP : P ≤ P') (hS : S ≤ S') (h1 : C' (1 + p) = C (1 + p)) (h2 : M' (351 + p) = M (351 + p)) (h3 : M' (358 + p) = M (358 + p)) : g_sk P' S' C' M' 0 p := by
  unfold g_sk at h ⊢
  rw [Nat.zero_add, Nat.zero_add] at h ⊢
  rw [h1, h2, h3]
  rcases h with z | ⟨s, o, z1, z2, z3⟩
  · exact Or.inl z
  · exact Or.inr ⟨s, o, by omega, by omega, z3⟩
def z_up (f : Nat → Nat) (i v : Nat) : Nat → Nat := fun j => if j = i then v else f j
theorem z_up_s (f : Nat → Nat) (i v : Nat) : z_up f i v i = v := if_pos rfl
theorem z_up_n {f : Nat → Nat} {i v j : Nat} (h : j ≠ i) : z_up f i v j = f j := if_neg h
theorem z_Z.song {S P : Nat} {len mem : Nat → Nat} {L Fs ME W C TO ML MF MW M IT : Nat → Int32} (h : z_Z S P len mem L Fs ME W C TO ML MF MW M IT) (hS : S < 5) {cnt : Nat} (h1 : 1 ≤ cnt) (h8 : cnt ≤ 8) {lv : Nat → Int32} (hlv : ∀ k, k < cnt → g_dg (lv k)) : z_Z (S + 1) P (z_up len S cnt) mem (upd L S (nI cnt)) (upd Fs S (g_mn lv cnt)) ME W C TO (upd ML S (nI cnt)) (g_cpy lv MF (8 * S) cnt) MW M IT := by
  obtain ⟨⟨a1, a2⟩, a3, a4, a5, a6, a7, a8, a9⟩ := h
  refine ⟨⟨hS, a2⟩, fun s hs => ?_, a4, a5, fun p hp s hs => ?_, fun p hp => (a7 p hp).mono (Nat.le_refl _) (by omega) rfl rfl rfl, a8, a9⟩
  · by_cases e : s = S
    · subst e
      rw [pk_us, pk_us, pk_us, z_up_s]
      refine ⟨rfl, rfl, h1, h8, fun k hk => ?_, fun k hk => ?_⟩
      · rw [g_mn_nt cnt h8 hlv k hk]
        by_cases z : k < cnt
        · rw [if_pos z, if_pos z, g_cpy_in (by omega) (by omega), show 8 * s + k - 8 * s = k by omega]
        · rw [if_neg z, if_neg z]
      · rw [g_cpy_in (by omega) (by omega), show 8 * s + k - 8 * s = k by omega]
        exact hlv k hk
    · have hs' : s < S := by omega
      obtain ⟨b1, b2, b3, b4, b5, b6⟩ := a3 s hs'
      rw [pk_un e, pk_un e, pk_un e, z_up_n e]
      refine ⟨b1, b2, b3, b4, fun k hk => ?_, fun k hk => ?_⟩
      · rw [b5 k hk, g_cpy_out (by omega)]
      · rw [g_cpy_out (by omega)]
        exact b6 k hk
  · exact (a6 p hp s hs).of (fun z => ⟨by omega, z_up_n (by omega)⟩) rfl rfl (fun _ _ => rfl) rfl rfl rfl
theorem z_Z.person {S P : Nat} {len mem : Nat → Nat} {L Fs ME W C TO ML MF MW M IT : Nat → Int32} (h : z_Z S P len mem L Fs ME W C TO ML MF MW M IT) (hP : P < 7) {x y : Nat} (hx : x ≤ 9) : z_Z S (P + 1) len (z_up mem P x) L Fs (upd ME P (nI x)) (upd W P (nI y)) C TO ML MF (upd MW P (nI y)) (upd (upd (upd M (365 + P) (nI x)) (351 + P) (-1)) (358 + P) (-1)) IT := by
  obtain ⟨⟨a1, a2⟩, a3, a4, ⟨a5, a5'⟩, a6, a7, a8, a9⟩ := h
  refine ⟨⟨a1, hP⟩, a3, fun p hp => ?_, ⟨a5, by rw [pk_un (by omega), pk_un (by omega), pk_un (by omega)]; exact a5'⟩, fun p hp s hs => ?_, fun p hp => ?_, a8, fun p h1 h2 => a9 p (by omega) h2⟩
  · by_cases e : p = P
    · subst e
      rw [pk_us, pk_us, pk_us, z_up_s, pk_un (by omega), pk_un (by omega), pk_us]
      exact ⟨rfl, rfl, rfl, hx⟩
    · rw [pk_un e, pk_un e, pk_un e, z_up_n e, pk_un (by omega), pk_un (by omega), pk_un (by omega)]
      exact a4 p (by omega)
  · exact (a6 p hp s hs).of (fun z => ⟨z, rfl⟩) rfl rfl (fun k hk => by rw [pk_un (by omega), pk_un (by omega), pk_un (by omega)]) (by rw [pk_un (by omega), pk_un (by omega), pk_un (by omega)]) (by rw [pk_un (by omega), pk_un (by omega), pk_un (by omega)]) rfl
  · by_cases e : p = P
    · subst e
      have := a7 p hp
      unfold g_sk at this ⊢
      rw [Nat.zero_add, Nat.zero_add] at this ⊢
      rw [pk_un (show 351 + p ≠ 358 + p by omega), pk_us, pk_us]
      rcases this with z | ⟨s, o, z1, z2, z3, z4, z5⟩
      · exact Or.inl ⟨z.1, rfl, rfl⟩
      · exact absurd (z3.symm.trans (a9 p (Nat.le_refl _) hp)) (g_m1 (by omega))
    · exact (a7 p hp).mono (by omega) (Nat.le_refl _) rfl (by rw [pk_un (by omega), pk_un (by omega), pk_un (by omega)]) (by rw [pk_un (by omega), pk_un (by omega), pk_un (by omega)])
theorem z_or {g : Nat → Bool} {n s : Nat} (hs : s < n) : g_mk g n ||| 2 ^ s = g_mk (fun j => g j || (j == s)) n := by
  apply Nat.eq_of_testBit_eq
  intro i
  rw [Nat.testBit_or, g_mk_bit, g_mk_bit, Nat.testBit_two_pow]
  by_cases e : s = i
  · subst e
    simp [hs]
  · have : (i == s) = false := by
      simp
      omega
    simp [e, this]
theorem z_hs_out {src M : Nat → Int32} {q h gv i j : Nat} (h1 : j < q ∨ q + i ≤ j) (h2 : j ≠ h) : z_hs src M q h gv i j = M j := by
  unfold z_hs
  split
  · exact g_cpy_out h1
  · rw [pk_un h2, g_cpy_out h1]
theorem z_Z.has {S P : Nat} {len mem : Nat → Nat} {L Fs ME W C TO ML MF MW M IT : Nat → Int32} (h : z_Z S P len mem L Fs ME W C TO ML MF MW M IT) {p s gv : Nat} (hp : p < P) (hs : s < S) (hit : IT (5 * p + s) = 0) : z_Z S P len mem L Fs ME W (upd C (8 + 5 * p + s) (z_gp (Fs s) gv 8)) (upd TO p (TO p ||| ((1 : Int32) <<< (nI s &&& 31)))) ML MF MW (z_hs (fun k => if gv.testBit k = true then -1 else MF (8 * s + k)) M (1 + 40 * p + 8 * s) (281 + 5 * p + s) gv (len s)) (upd IT (5 * p + s) 1) := by
  obtain ⟨⟨a1, a2⟩, a3, a4, ⟨a5, a5'⟩, a6, a7, a8, a9⟩ := h
  obtain ⟨b1, b2, b3, b4, b5, b6⟩ := a3 s hs
  refine ⟨⟨a1, a2⟩, a3, fun p' hp' => ?_, ⟨by rw [pk_un (by omega)]; exact a5, by rw [z_hs_out (by omega) (by omega)]; exact a5'⟩, fun p' hp' s' hs' => ?_, fun p' hp' => ?_, fun p' hp' => ?_, fun p' h1 h2 => by rw [pk_un (by omega)]; exact a9 p' h1 h2⟩
  · rw [z_hs_out (by omega) (by omega)]
    exact a4 p' hp'
  · by_cases e : p' = p ∧ s' = s
    · obtain ⟨e1, e2⟩ := e
      subst e1
      subst e2
      obtain ⟨c1, c2, c3, c4, c5, c6⟩ := a6 p' hp' s' hs'
      have hCm := c6 hit
      have hnt : ∀ k, k < 8 → g_nt (z_gp (Fs s') gv 8) k = if k < len s' then (if gv.testBit k = true then -1 else MF (8 * s' + k)) else -1 := by
        intro k hk
        rw [z_gp_nt _ _ 8 (Nat.le_refl _) k hk, b5 k hk]
        by_cases z : gv.testBit k = true
        · rw [if_pos ⟨hk, z⟩, if_pos z]
          split <;> rfl
        · rw [if_neg (fun y => z y.2), if_neg z]
      have hold : ∀ k, k < 8 → M (1 + 40 * p' + 8 * s' + k) = -1 := fun k hk => by
        rw [← (c1 k hk).1, hCm]
        exact g_nt_m k hk
      have hMn : ∀ k, k < 8 → z_hs (fun k => if gv.testBit k = true then -1 else MF (8 * s' + k)) M (1 + 40 * p' + 8 * s') (281 + 5 * p' + s') gv (len s') (1 + 40 * p' + 8 * s' + k) = if k < len s' then (if gv.testBit k = true then -1 else MF (8 * s' + k)) else -1 := by
        intro k hk
        by_cases z : k < len s'
        · rw [if_pos z]
          unfold z_hs
          have e3 : g_cpy (fun k => if gv.testBit k = true then -1 else MF (8 * s' + k)) M (1 + 40 * p' + 8 * s') (len s') (1 + 40 * p' + 8 * s' + k) = if gv.testBit k = true then -1 else MF (8 * s' + k) := by
            rw [g_cpy_in (by omega) (by omega), show 1 + 40 * p' + 8 * s' + k - (1 + 40 * p' + 8 * s') = k by omega]
          split
          · exact e3
          · rw [pk_un (by omega)]
            exact e3
        · rw [if_neg z, z_hs_out (by omega) (by omega)]
          exact hold k hk
      have hall : z_gp (Fs s') gv 8 = -1 ↔ g_ct (fun k => !gv.testBit k) (len s') = 0 := by
        rw [g_hold, g_ct_0]
        constructor
        · intro q k hk
          have := q k (by omega)
          rw [hnt k (by omega), if_pos hk] at this
          by_cases z : gv.testBit k = true
          · rw [z]; rfl
          · rw [if_neg z] at this
            obtain ⟨d, hd, ed⟩ := b6 k hk
            rw [ed] at this
            exact absurd this (g_m1 (by omega))
        · intro q k hk
          rw [hnt k hk]
          by_cases z : k < len s'
          · have := q k z
            rw [if_pos z, if_pos (by simpa using this)]
          · rw [if_neg z]
      refine ⟨fun k hk => ?_, ?_, ?_, ?_, Or.inr pk_us, fun z => ?_⟩
      · rw [pk_us, hnt k hk, hMn k hk]
        refine ⟨rfl, ?_⟩
        by_cases z : k < len s'
        · rw [if_pos z]
          by_cases y : gv.testBit k = true
          · rw [if_pos y]
            exact Or.inl rfl
          · rw [if_neg y]
            exact Or.inr ⟨hs, z, b6 k z⟩
        · rw [if_neg z]
          exact Or.inl rfl
      · rw [pk_us]
        unfold z_hs
        by_cases z : g_ct (fun k => !gv.testBit k) (len s') = 0
        · rw [if_pos z, if_pos (hall.mpr z), g_cpy_out (by omega), c2, if_pos hCm]
        · rw [if_neg z, if_neg (fun y => z (hall.mp y)), pk_us]
      · rw [pk_un (by omega)]
        exact c3
      · rw [z_hs_out (by omega) (by omega)]
        exact c4
      · rw [pk_us] at z
        exact absurd z (by decide)
    · exact (a6 p' hp' s' hs').of (fun z => ⟨z, rfl⟩) (pk_un (by omega)) (pk_un (by omega)) (fun k hk => z_hs_out (by omega) (by omega)) (z_hs_out (by omega) (by omega)) (z_hs_out (by omega) (by omega)) (pk_un (by omega))
  · exact (a7 p' hp').mono (Nat.le_refl _) (Nat.le_refl _) (pk_un (by omega)) (z_hs_out (by omega) (by omega)) (z_hs_out (by omega) (by omega))
  · by_cases e : p' = p
    · subst e
      rw [pk_us, a8 p' hp', g_1shl s (by omega), g_or, z_or (by omega)]
      refine congrArg nI (g_mk_cong (fun j hj => ?_))
      by_cases z : j = s
      · subst z
        rw [pk_us]
        simp
      · rw [pk_un (by omega)]
        have : (j == s) = false := by
          simp
          exact z
        rw [this, Bool.or_false]
    · rw [pk_un e, a8 p' hp']
      refine congrArg nI (g_mk_cong (fun j hj => ?_))
      rw [pk_un (by omega)]
theorem z_Z.seek {S P : Nat} {len mem : Nat → Nat} {L Fs ME W C TO ML MF MW M IT : Nat → Int32} (h : z_Z S P len mem L Fs ME W C TO ML MF MW M IT) {p s o : Nat} (hp : p < P) (hs : s < S) (ho : o < P) : z_Z S P len mem L Fs ME W (upd C (1 + p) (nI (7 * s + o))) TO ML MF MW (upd (upd M (351 + p) (nI s)) (358 + p) (nI o)) IT := by
  obtain ⟨⟨a1, a2⟩, a3, a4, ⟨a5, a5'⟩, a6, a7, a8, a9⟩ := h
  refine ⟨⟨a1, a2⟩, a3, fun p' hp' => ?_, ⟨by rw [pk_un (by omega)]; exact a5, by rw [pk_un (by omega), pk_un (by omega)]; exact a5'⟩, fun p' hp' s' hs' => ?_, fun p' hp' => ?_, a8, fun p' h1 h2 => by rw [pk_un (by omega)]; exact a9 p' h1 h2⟩
  · rw [pk_un (show 365 + p' ≠ 358 + p by omega), pk_un (show 365 + p' ≠ 351 + p by omega)]
    exact a4 p' hp'
  · exact (a6 p' hp' s' hs').of (fun z => ⟨z, rfl⟩) (pk_un (by omega)) (pk_un (by omega)) (fun k hk => by rw [pk_un (by omega), pk_un (by omega)]) (by rw [pk_un (by omega), pk_un (by omega)]) (by rw [pk_un (by omega), pk_un (by omega)]) rfl
  · by_cases e : p' = p
    · subst e
      refine Or.inr ⟨s, o, hs, ho, pk_us, ?_, ?_⟩
      · rw [Nat.zero_add, pk_un (by omega), pk_us]
      · rw [Nat.zero_add, pk_us]
    · exact (a7 p' hp').mono (Nat.le_refl _) (Nat.le_refl _) (pk_un (by omega)) (by rw [pk_un (by omega), pk_un (by omega)]) (by rw [pk_un (by omega), pk_un (by omega)])
theorem z_Z.sk {S P : Nat} {len mem : Nat → Nat} {L Fs ME W C TO ML MF MW M IT : Nat → Int32} (h : z_Z S P len mem L Fs ME W C TO ML MF MW M IT) {p : Nat} (hp : p < P) : C (1 + p) = -1 ↔ M (351 + p) = -1 := by
  have := h.2.2.2.2.2.1 p (by have := h.1.2; omega)
  unfold g_sk at this
  rw [Nat.zero_add, Nat.zero_add] at this
  have h5 := h.1
  rcases this with z | ⟨s, o, z1, z2, z3, z4, -⟩
  · exact ⟨fun _ => z.2.1, fun _ => z.1⟩
  · rw [z3, z4]
    exact ⟨fun q => absurd q (g_m1 (by omega)), fun q => absurd q (g_m1 (by omega))⟩
def z_rl (V : Nat → Bool) (CC : Nat → Int32) (fr to : Int32) (CM : Nat → Int32) (at0 : Int32) (rl : Option (List Nat)) (ce top : Nat) : Prop :=
  match rl with
  | none => fr = -1 ∧ at0 = -1
  | some c => ∃ i k : Nat, fr = nI i ∧ to = nI (i + c.length) ∧ at0 = nI k ∧ i + c.length ≤ ce ∧ k + m_ln c + 1 ≤ top ∧ k + 2 * c.length < 1400 ∧ i + c.length ≤ 700 ∧ g_seg CC i c ∧ m_seg CM k c ∧ g_ok c 0 ∧ g_us V c
theorem m_seg_cong {a b : Nat → Int32} : ∀ (c : List Nat) (k : Nat), (∀ j, k ≤ j → j ≤ k + m_ln c → b j = a j) → m_seg a k c → m_seg b k c
  | [], k, h, h1 => by
    show b k = 0
    rw [h k (Nat.le_refl _) (by omega)]
    exact h1
  | t :: c, k, h, h1 => by
    rw [m_seg] at h1 ⊢
    rw [m_ln] at h
    by_cases a1 : t < 10000
    · rw [if_pos a1] at h1 ⊢
      rw [if_pos (by omega)] at h
      exact ⟨by rw [h k (by omega) (by omega)]; exact h1.1, by rw [h (k + 1) (by omega) (by omega)]; exact h1.2.1, m_seg_cong c _ (fun j hj1 hj2 => h j (by omega) (by omega)) h1.2.2⟩
    · rw [if_neg a1] at h1 ⊢
      by_cases a2 : t < 20000
      · rw [if_pos a2] at h1 h ⊢
        exact ⟨by rw [h k (by omega) (by omega)]; exact h1.1, by rw [h (k + 1) (by omega) (by omega)]; exact h1.2.1, m_seg_cong c _ (fun j hj1 hj2 => h j (by omega) (by omega)) h1.2.2⟩
      · rw [if_neg a2] at h1 h ⊢
        exact ⟨by rw [h k (by omega) (by omega)]; exact h1.1, m_seg_cong c _ (fun j hj1 hj2 => h j (by omega) (by omega)) h1.2⟩
theorem z_rl.mono {V : Nat → Bool} {CC CM CC' CM' : Nat → Int32} {fr to at0 : Int32} {rl : Option (List Nat)} {ce top ce' top' : Nat} (h : z_rl V CC fr to CM at0 rl ce top) (h1 : ce ≤ ce') (h2 : top ≤ top') (h3 : ∀ j, j < ce → CC' j = CC j) (h4 : ∀ j, j < top → CM' j = CM j) : z_rl V CC' fr to CM' at0 rl ce' top' := by
  cases rl with
  | none => exact h
  | some c =>
    obtain ⟨i, k, e1, e2, e3, b1, b2, b3, b4, s1, s2, s3, s4⟩ := h
    exact ⟨i, k, e1, e2, e3, by omega, by omega, b3, b4, g_seg_cong c i (fun j hj1 hj2 => h3 j (by omega)) s1, m_seg_cong c k (fun j hj1 hj2 => h4 j (by omega)) s2, s3, s4⟩
