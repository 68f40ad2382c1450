/-! ===== pure rows: what a call needs ===== -/
theorem g_bx1_r {α β : Type} {a : α} {k : α → Option (Nat ⊕ β)} : gs_bx1 (some (.inr a)) k = k a := rfl
theorem g_bx1_l {α β : Type} {n : Nat} {k : α → Option (Nat ⊕ β)} : gs_bx1 (some (.inl n)) k = some (.inl n) := rfl
theorem n_r1 : f_X12_right 1 1 0 = some (1, 0) := rfl
theorem n_r0 : f_X12_right 0 1 0 = some (0, 1) := rfl
theorem n_r12 : f_X12_right 1 2 0 = some (1, 0) := rfl
theorem n_r02 : f_X12_right 0 2 0 = some (0, 2) := rfl
theorem n_lt0 {x : Int32} (h : x < 0) {n : Nat} (hn : n < 2 ^ 31) : ¬ nI n ≤ x := by
  rw [Int32.lt_iff_toInt_lt] at h
  rw [Int32.le_iff_toInt_le, nI_toInt hn]
  have : (0 : Int32).toInt = 0 := rfl
  omega
theorem n_nlt {x y : Int32} (h : y ≤ x) : ¬ x < y := by
  rw [Int32.le_iff_toInt_le] at h
  rw [Int32.lt_iff_toInt_lt]
  omega
theorem n_lt {x y : Int32} (h : ¬ x ≤ y) : y < x := by
  rw [Int32.le_iff_toInt_le] at h
  rw [Int32.lt_iff_toInt_lt]
  omega
theorem n_nle {x y : Int32} (h : x < y) : ¬ y ≤ x := by
  rw [Int32.lt_iff_toInt_lt] at h
  rw [Int32.le_iff_toInt_le]
  omega
theorem n_le {x y : Int32} (h : ¬ x < y) : y ≤ x := by
  rw [Int32.lt_iff_toInt_lt] at h
  rw [Int32.le_iff_toInt_le]
  omega
theorem n_person {P : Nat} (hP : P ≤ 7) (x : Int32) : (∃ p, p < P ∧ x = nI p) ∨ (f_X11_needPerson x (nI P) = some (.inl 1) ∧ f_X12_isPerson x 0 (nI P) = some (0, 1)) := by
  rcases pk_ix x (n := P) (by omega) with h | h | h
  · right
    unfold f_X11_needPerson f_X12_isPerson
    rw [if_pos h, if_pos h]
    exact ⟨rfl, rfl⟩
  · by_cases h0 : x < 0
    · exact absurd h (n_lt0 h0 (by omega))
    · right
      unfold f_X11_needPerson f_X12_isPerson
      rw [if_neg h0, if_neg h0, if_neg (n_nlt h), if_pos h]
      exact ⟨rfl, rfl⟩
  · exact Or.inl h
theorem n_person_t {p P : Nat} (hp : p < P) (hP : P ≤ 7) : f_X11_needPerson (nI p) (nI P) = some (.inr ()) ∧ f_X12_isPerson (nI p) 0 (nI P) = some (1, 0) := by
  unfold f_X11_needPerson f_X12_isPerson
  rw [if_neg (nI_pos (by omega)), if_neg (nI_pos (by omega)), if_pos (nI_lt hp (by omega)), if_neg (nI_ge hp (by omega))]
  exact ⟨rfl, rfl⟩
theorem n_song {S : Nat} (hS : S ≤ 5) (x : Int32) : (∃ p, p < S ∧ x = nI p) ∨ (f_X11_needSong x (nI S) = some (.inl 1) ∧ f_X12_isSong x 0 (nI S) = some (0, 1)) := by
  rcases pk_ix x (n := S) (by omega) with h | h | h
  · right
    unfold f_X11_needSong f_X12_isSong
    rw [if_pos h, if_pos h]
    exact ⟨rfl, rfl⟩
  · by_cases h0 : x < 0
    · exact absurd h (n_lt0 h0 (by omega))
    · right
      unfold f_X11_needSong f_X12_isSong
      rw [if_neg h0, if_neg h0, if_neg (n_nlt h), if_pos h]
      exact ⟨rfl, rfl⟩
  · exact Or.inl h
theorem n_song_t {p S : Nat} (hp : p < S) (hS : S ≤ 5) : f_X11_needSong (nI p) (nI S) = some (.inr ()) ∧ f_X12_isSong (nI p) 0 (nI S) = some (1, 0) := by
  unfold f_X11_needSong f_X12_isSong
  rw [if_neg (nI_pos (by omega)), if_neg (nI_pos (by omega)), if_pos (nI_lt hp (by omega)), if_neg (nI_ge hp (by omega))]
  exact ⟨rfl, rfl⟩
theorem n_what (m : Nat) (hm : m < 100) (x : Int32) : (∃ k, k < m + 1 ∧ x = nI k) ∨ (f_X11_needWhat x (nI (m + 1)) = some (.inl 1) ∧ f_X12_isWhat x (nI m) 0 = some (0, 1)) := by
  rcases pk_ix x (n := m + 1) (by omega) with h | h | h
  · right
    unfold f_X11_needWhat f_X12_isWhat f_X12_within
    rw [if_pos h, if_pos h]
    exact ⟨rfl, rfl⟩
  · by_cases h0 : x < 0
    · exact absurd h (n_lt0 h0 (by omega))
    · right
      unfold f_X11_needWhat f_X12_isWhat f_X12_within
      have : nI m < x := by
        rw [Int32.le_iff_toInt_le, nI_toInt (by omega)] at h
        rw [Int32.lt_iff_toInt_lt, nI_toInt (by omega)]
        omega
      rw [if_neg h0, if_neg h0, if_neg (n_nlt h), if_pos this]
      exact ⟨rfl, rfl⟩
  · exact Or.inl h
theorem n_what_t {k m : Nat} (h : k < m + 1) (hm : m < 100) : f_X11_needWhat (nI k) (nI (m + 1)) = some (.inr ()) ∧ f_X12_isWhat (nI k) (nI m) 0 = some (1, 0) := by
  unfold f_X11_needWhat f_X12_isWhat f_X12_within
  rw [if_neg (nI_pos (by omega)), if_neg (nI_pos (by omega)), if_pos (nI_lt h (by omega)), if_neg (nI_nlt (by omega) (by omega))]
  exact ⟨rfl, rfl⟩
theorem n_what2 (x : Int32) : (∃ k, k < 2 ∧ x = nI k ∧ f_X11_needWhat x 2 = some (.inr ()) ∧ f_X12_isWhat x 1 0 = some (1, 0)) ∨ (f_X11_needWhat x 2 = some (.inl 1) ∧ f_X12_isWhat x 1 0 = some (0, 1)) := by
  rcases n_what 1 (by omega) x with ⟨k, hk, e⟩ | h
  · left
    rw [e]
    exact ⟨k, hk, rfl, n_what_t (m := 1) hk (by omega)⟩
  · exact Or.inr h
theorem n_what3 (x : Int32) : (∃ k, k < 3 ∧ x = nI k ∧ f_X11_needWhat x 3 = some (.inr ()) ∧ f_X12_isWhat x 2 0 = some (1, 0)) ∨ (f_X11_needWhat x 3 = some (.inl 1) ∧ f_X12_isWhat x 2 0 = some (0, 1)) := by
  rcases n_what 2 (by omega) x with ⟨k, hk, e⟩ | h
  · left
    rw [e]
    exact ⟨k, hk, rfl, n_what_t (m := 2) hk (by omega)⟩
  · exact Or.inr h
theorem n_days (x : Int32) : (∃ d, d ≤ 100 ∧ x = nI d ∧ f_X11_needDays x = some (.inr ()) ∧ f_X12_isSoon x 0 2 0 = some (1, 0) ∧ f_X12_isSoon x 0 1 0 = some (1, 0)) ∨ (f_X11_needDays x = some (.inl 2) ∧ f_X12_isSoon x 0 2 0 = some (0, 2) ∧ f_X12_isSoon x 0 1 0 = some (0, 1)) := by
  rcases pk_ix x (n := 101) (by omega) with h | h | ⟨d, hd, e⟩
  · right
    unfold f_X11_needDays f_X12_isSoon f_X12_within
    rw [if_pos h, if_pos h]
    exact ⟨rfl, rfl, rfl⟩
  · by_cases h0 : x < 0
    · exact absurd h (n_lt0 h0 (by omega))
    · right
      unfold f_X11_needDays f_X12_isSoon f_X12_within
      have h1 : (100 : Int32) < x := by
        rw [Int32.le_iff_toInt_le, nI_toInt (by omega)] at h
        rw [Int32.lt_iff_toInt_lt, show (100 : Int32).toInt = 100 from rfl]
        omega
      rw [if_neg h0, if_neg h0, if_neg (n_nle h1), if_pos h1]
      exact ⟨rfl, rfl, rfl⟩
  · left
    subst e
    refine ⟨d, by omega, rfl, ?_⟩
    unfold f_X11_needDays f_X12_isSoon f_X12_within
    rw [if_neg (nI_pos (by omega)), if_neg (nI_pos (by omega)), if_pos (show nI d ≤ 100 from nI_le (b := 100) (by omega) (by omega)), if_neg (show ¬ (100 : Int32) < nI d from nI_nlt (a := 100) (by omega) (by omega))]
    exact ⟨rfl, rfl, rfl⟩
theorem n_place {S s n : Nat} {L ML : Nat → Int32} (hS : S ≤ 5) (hs : s < S) (hl : L s = nI n) (hml : ML s = nI n) (hn : n ≤ 8) (x : Int32) : (∃ k, k < n ∧ x = nI k ∧ f_X11_needPlace (nI s) x (nI S) L = some (.inr ()) ∧ f_X12_isPlace (nI s) x 0 ML = some (1, 0)) ∨ (f_X11_needPlace (nI s) x (nI S) L = some (.inl 1) ∧ f_X12_isPlace (nI s) x 0 ML = some (0, 1)) := by
  unfold f_X11_needPlace f_X12_isPlace
  rw [(n_song_t hs hS).1, g_bx1_r, gs_gd_t (gs_in_nI (i := s) (n := 5) (by omega) (by decide)), gs_gd_t (gs_in_nI (i := s) (n := 5) (by omega) (by decide)), nI_clamp (by omega), hl, hml]
  rcases pk_ix x (n := n) (by omega) with h | h | ⟨k, hk, e⟩
  · right
    rw [if_pos h, if_pos h]
    exact ⟨rfl, rfl⟩
  · by_cases h0 : x < 0
    · exact absurd h (n_lt0 h0 (by omega))
    · right
      rw [if_neg h0, if_neg h0, if_neg (n_nlt h), if_pos h]
      exact ⟨rfl, rfl⟩
  · left
    subst e
    refine ⟨k, hk, rfl, ?_⟩
    rw [if_neg (nI_pos (by omega)), if_neg (nI_pos (by omega)), if_pos (nI_lt hk (by omega)), if_neg (nI_ge hk (by omega))]
    exact ⟨rfl, rfl⟩
theorem n_place_s {S : Nat} {L : Nat → Int32} {x y : Int32} (h : f_X11_needSong x (nI S) = some (.inl 1)) : f_X11_needPlace x y (nI S) L = some (.inl 1) := by
  unfold f_X11_needPlace
  rw [h, g_bx1_l]
/-- class and model answer alike -/
def g_ag (c : Option (Nat ⊕ Int32)) (m : Option (Int32 × Int32)) : Prop := (∃ v, c = some (.inr v) ∧ m = some (v, 0)) ∨ (c = some (.inl 1) ∧ ∃ v, m = some (v, 1))
theorem g_rt_s {α : Type} {a : α} : gs_rt (some a) = some (.inr a) := rfl
theorem g_R.cong {P S D : Nat} {len mem : Nat → Nat} {C M C' M' : Nat → Int32} {b b' : Nat} (hP : P ≤ 7) (hS : S ≤ 5) (h : g_R P S D len mem C M b) (hC : ∀ j, j < 78 → C' j = C j) (hM : ∀ j, j < 372 → M' (b' + j) = M (b + j)) : g_R P S D len mem C' M' b' := by
  obtain ⟨⟨d, hd, d1, d2⟩, h2, h3, h4⟩ := h
  refine ⟨⟨d, hd, ?_, ?_⟩, fun p hp s hs => ?_, fun p hp => ?_, fun p hp => ?_⟩
  · rw [hC 0 (by omega)]; exact d1
  · have := hM 0 (by omega)
    rw [Nat.add_zero, Nat.add_zero] at this
    rw [this]; exact d2
  · obtain ⟨a1, a2, a3, a4⟩ := h2 p hp s hs
    have e1 := hC (8 + 5 * p + s) (by omega)
    have e2 := hC (43 + 5 * p + s) (by omega)
    have e3 : M' (b' + 281 + 5 * p + s) = M (b + 281 + 5 * p + s) := by
      have := hM (281 + 5 * p + s) (by omega)
      rw [show b' + (281 + 5 * p + s) = b' + 281 + 5 * p + s by omega, show b + (281 + 5 * p + s) = b + 281 + 5 * p + s by omega] at this
      exact this
    have e4 : M' (b' + 316 + 5 * p + s) = M (b + 316 + 5 * p + s) := by
      have := hM (316 + 5 * p + s) (by omega)
      rw [show b' + (316 + 5 * p + s) = b' + 316 + 5 * p + s by omega, show b + (316 + 5 * p + s) = b + 316 + 5 * p + s by omega] at this
      exact this
    refine ⟨fun k hk => ?_, ?_, ?_, ?_⟩
    · rw [e1, hM (1 + 40 * p + 8 * s + k) (by omega)]; exact a1 k hk
    · rw [e1, e3]; exact a2
    · rw [e2, e4]; exact a3
    · rw [e2]; exact a4
  · have e1 := hC (1 + p) (by omega)
    have e2 : M' (b' + 351 + p) = M (b + 351 + p) := by
      have := hM (351 + p) (by omega)
      rw [show b' + (351 + p) = b' + 351 + p by omega, show b + (351 + p) = b + 351 + p by omega] at this
      exact this
    have e3 : M' (b' + 358 + p) = M (b + 358 + p) := by
      have := hM (358 + p) (by omega)
      rw [show b' + (358 + p) = b' + 358 + p by omega, show b + (358 + p) = b + 358 + p by omega] at this
      exact this
    have := h3 p hp
    unfold g_sk at this ⊢
    rw [e1, e2, e3]
    exact this
  · have e2 : M' (b' + 365 + p) = M (b + 365 + p) := by
      have := hM (365 + p) (by omega)
      rw [show b' + (365 + p) = b' + 365 + p by omega, show b + (365 + p) = b + 365 + p by omega] at this
      exact this
    rw [e2]; exact h4 p hp
