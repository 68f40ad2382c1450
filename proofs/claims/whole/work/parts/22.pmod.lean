/-! ===== pure rows: what the model sees in a row ===== -/
def m_H (M : Nat → Int32) (b p s : Nat) : Bool := M (b + 281 + 5 * p + s) == 1
def m_nA (M : Nat → Int32) (b p s k : Nat) : Bool := M (b + (1 + 40 * p + 8 * s + k)) == -1
theorem m_noteAt (p s k : Nat) : f_X12_noteAt (nI p) (nI s) (nI k) = some (nI (1 + 40 * p + 8 * s + k)) := by
  unfold f_X12_noteAt
  refine congrArg some ?_
  show ((nI 1 + (nI 40 * nI p)) + (nI 8 * nI s)) + nI k = _
  rw [gs_mul, gs_mul, nI_add, nI_add, nI_add]
theorem m_ixH (b p s : Nat) : ((nI b + 281) + (5 * nI p)) + nI s = nI (b + 281 + 5 * p + s) := by
  show ((nI b + nI 281) + (nI 5 * nI p)) + nI s = _
  rw [gs_mul, nI_add, nI_add, nI_add]
theorem m_ixT (b p s : Nat) : ((nI b + 316) + (5 * nI p)) + nI s = nI (b + 316 + 5 * p + s) := by
  show ((nI b + nI 316) + (nI 5 * nI p)) + nI s = _
  rw [gs_mul, nI_add, nI_add, nI_add]
theorem m_ixT0 (p s : Nat) : (316 + (5 * nI p)) + nI s = nI (316 + 5 * p + s) := by
  show (nI 316 + (nI 5 * nI p)) + nI s = _
  rw [gs_mul, nI_add, nI_add]
theorem m_has {b p s : Nat} (hb : b ≤ 372) (hp : p < 7) (hs : s < 5) (M : Nat → Int32) : f_X12_doesHave (nI b) (nI p) (nI s) M = some (if m_H M b p s = true then 1 else 0) := by
  unfold f_X12_doesHave m_H
  rw [m_ixH, gs_gd_t (gs_in_nI (by omega) (by decide)), nI_clamp (by omega)]
  by_cases h : M (b + 281 + 5 * p + s) = 1
  · rw [if_pos h, if_pos (by simp [h])]
  · rw [if_neg h, if_neg (by simp [h])]
theorem m_whoHave {M : Nat → Int32} {b s P : Nat} (hb : b ≤ 372) (hs : s < 5) (hP : P ≤ 7) : f_X12_whoHave (nI b) (nI s) (nI P) M = some (nI (g_mk (fun p => m_H M b p s) P)) := by
  unfold f_X12_whoHave
  refine g_la P (fun i => nI (g_mk (fun p => m_H M b p s) i)) (by omega) rfl (fun K i hi => ?_) (fun K => ?_)
  · unfold f_X12_whoHave_5
    rw [if_neg (nI_ge hi (by omega)), m_has hb (by omega) hs, gs_b1_s, nI_1 i]
    by_cases h : m_H M b i s = true
    · rw [if_pos h, if_neg (by decide), g_mk_t (g := fun p => m_H M b p s) (by omega) h]
    · rw [if_neg h, if_pos rfl, g_or0, g_mk_f (g := fun p => m_H M b p s) (i := i) (Bool.eq_false_iff.mpr h)]
  · unfold f_X12_whoHave_5
    exact if_pos (nI_le (Nat.le_refl _) (by omega))
theorem m_gapsIn {M L : Nat → Int32} {b p s n : Nat} (hb : b ≤ 372) (hp : p < 7) (hs : s < 5) (hl : L s = nI n) (hn : n ≤ 8) : f_X12_gapsIn (nI b) (nI p) (nI s) L M = some (nI (g_mk (m_nA M b p s) n)) := by
  unfold f_X12_gapsIn
  refine g_la n (fun i => nI (g_mk (m_nA M b p s) i)) (by omega) rfl (fun K i hi => ?_) (fun K => ?_)
  · unfold f_X12_gapsIn_6
    rw [gs_gd_t (gs_in_nI hs (by decide)), nI_clamp (by omega), hl, if_neg (nI_ge hi (by omega)), m_noteAt, gs_b1_s, nI_add, gs_gd_t (gs_in_nI (by omega) (by decide)), nI_clamp (by omega), nI_1 i]
    by_cases h : M (b + (1 + 40 * p + 8 * s + i)) = -1
    · rw [if_pos h, g_mk_t (g := m_nA M b p s) (by omega) (by simp [m_nA, h])]
    · rw [if_neg h, g_or0, g_mk_f (g := m_nA M b p s) (i := i) (by simp [m_nA, h])]
  · unfold f_X12_gapsIn_6
    rw [gs_gd_t (gs_in_nI hs (by decide)), nI_clamp (by omega), hl, if_pos (nI_le (Nat.le_refl _) (by omega))]
theorem m_likeIn {M L F : Nat → Int32} {b p s n : Nat} (hb : b ≤ 372) (hp : p < 7) (hs : s < 5) (hl : L s = nI n) (hn : n ≤ 8) : f_X12_likeIn (nI b) (nI p) (nI s) L F M = some (nI (g_ct (fun k => M (b + (1 + 40 * p + 8 * s + k)) == F (8 * s + k)) n)) := by
  unfold f_X12_likeIn
  refine g_la n (fun i => nI (g_ct (fun k => M (b + (1 + 40 * p + 8 * s + k)) == F (8 * s + k)) i)) (by omega) rfl (fun K i hi => ?_) (fun K => ?_)
  · unfold f_X12_likeIn_6
    have e : (8 : Int32) * nI s + nI i = nI (8 * s + i) := by
      show nI 8 * nI s + nI i = _
      rw [gs_mul, nI_add]
    rw [gs_gd_t (gs_in_nI hs (by decide)), nI_clamp (by omega), hl, if_neg (nI_ge hi (by omega)), m_noteAt, gs_b1_s, nI_add, e, gs_gd_t (gs_in_nI (by omega) (by decide)), gs_gd_t (gs_in_nI (by omega) (by decide)), nI_clamp (by omega), nI_clamp (by omega), nI_1 i]
    by_cases h : M (b + (1 + 40 * p + 8 * s + i)) = F (8 * s + i)
    · rw [if_pos h, g_ct_t (g := fun k => M (b + (1 + 40 * p + 8 * s + k)) == F (8 * s + k)) (i := i) (by simp [h])]
    · rw [if_neg h, g_add0, g_ct_f (g := fun k => M (b + (1 + 40 * p + 8 * s + k)) == F (8 * s + k)) (i := i) (by simp [h])]
  · unfold f_X12_likeIn_6
    rw [gs_gd_t (gs_in_nI hs (by decide)), nI_clamp (by omega), hl, if_pos (nI_le (Nat.le_refl _) (by omega))]
theorem m_mk0 {g : Nat → Bool} {n : Nat} (hn : n ≤ 8) : nI (g_mk g n) = 0 ↔ g_mk g n = 0 := by
  have hm := g_mk_256 g hn
  exact nI_eq (b := 0) (by omega) (by decide)
theorem m_ct0 {g : Nat → Bool} {n : Nat} (hn : n ≤ 8) : nI (g_ct g n) = 0 ↔ g_ct g n = 0 := by
  have hm := g_ct_le g n
  exact nI_eq (b := 0) (by omega) (by decide)
/-- one has it, with gaps -/
def m_rd (M : Nat → Int32) (b n p s : Nat) : Bool := m_H M b p s && !(g_mk (m_nA M b p s) n == 0)
theorem m_canTeach {M L : Nat → Int32} {b p s n : Nat} (hb : b ≤ 372) (hp : p < 7) (hs : s < 5) (hl : L s = nI n) (hn : n ≤ 8) : f_X12_canTeach (nI b) (nI p) (nI s) L M = some (if m_rd M b n p s = true then 1 else 0) := by
  unfold f_X12_canTeach m_rd
  rw [m_has hb hp hs, gs_b1_s]
  by_cases h : m_H M b p s = true
  · rw [if_pos h, if_neg (by decide), m_gapsIn hb hp hs hl hn, gs_b1_s]
    by_cases h2 : g_mk (m_nA M b p s) n = 0
    · rw [if_pos ((m_mk0 hn).mpr h2), if_neg (by simp [h2])]
    · rw [if_neg (fun q => h2 ((m_mk0 hn).mp q)), if_pos (by simp [h, h2])]
  · rw [if_neg h, if_pos rfl, if_neg (by simp [h])]
theorem m_lostOnes {M : Nat → Int32} {b S P : Nat} (hb : b ≤ 372) (hS : S ≤ 5) (hP : P ≤ 7) : f_X12_lostOnes (nI b) (nI S) (nI P) M = some (nI (g_mk (fun s => g_mk (fun p => m_H M b p s) P == 0) S)) := by
  unfold f_X12_lostOnes
  refine g_la S (fun i => nI (g_mk (fun s => g_mk (fun p => m_H M b p s) P == 0) i)) (by omega) rfl (fun K i hi => ?_) (fun K => ?_)
  · unfold f_X12_lostOnes_4
    rw [if_neg (nI_ge hi (by omega)), m_whoHave hb (by omega) hP, gs_b1_s, nI_1 i]
    by_cases h : g_mk (fun p => m_H M b p i) P = 0
    · rw [if_pos ((m_mk0 (by omega)).mpr h), g_mk_t (g := fun s => g_mk (fun p => m_H M b p s) P == 0) (by omega) (by simp [h])]
    · rw [if_neg (fun q => h ((m_mk0 (by omega)).mp q)), g_or0, g_mk_f (g := fun s => g_mk (fun p => m_H M b p s) P == 0) (i := i) (by simp [h])]
  · unfold f_X12_lostOnes_4
    exact if_pos (nI_le (Nat.le_refl _) (by omega))
theorem m_gapsOf {M L : Nat → Int32} {b p S : Nat} (len : Nat → Nat) (hb : b ≤ 372) (hp : p < 7) (hS : S ≤ 5) (hl : ∀ s, s < S → L s = nI (len s) ∧ len s ≤ 8) : f_X12_gapsOf (nI b) (nI p) (nI S) L M = some (nI (g_sum (fun s => if m_H M b p s = true then g_ct (m_nA M b p s) (len s) else 0) S)) := by
  unfold f_X12_gapsOf
  refine g_la S (fun i => nI (g_sum (fun s => if m_H M b p s = true then g_ct (m_nA M b p s) (len s) else 0) i)) (by omega) rfl (fun K i hi => ?_) (fun K => ?_)
  · unfold f_X12_gapsOf_5
    rw [if_neg (nI_ge hi (by omega)), m_has hb hp (by omega), gs_b1_s, nI_1 i, g_sum]
    by_cases h : m_H M b p i = true
    · rw [if_pos h, if_neg (by decide), m_gapsIn hb hp (by omega) (hl i hi).1 (hl i hi).2, gs_b1_s, g_bits _ (hl i hi).2, gs_b1_s, nI_add, if_pos h]
    · rw [if_neg h, if_pos rfl, g_add0, if_neg h]
      rfl
  · unfold f_X12_gapsOf_5
    exact if_pos (nI_le (Nat.le_refl _) (by omega))
theorem m_gapsAll {M L : Nat → Int32} {b P S : Nat} (len : Nat → Nat) (hb : b ≤ 372) (hP : P ≤ 7) (hS : S ≤ 5) (hl : ∀ s, s < S → L s = nI (len s) ∧ len s ≤ 8) : f_X12_gapsAll (nI b) (nI S) (nI P) L M = some (nI (g_sum (fun p => g_sum (fun s => if m_H M b p s = true then g_ct (m_nA M b p s) (len s) else 0) S) P)) := by
  unfold f_X12_gapsAll
  refine g_la P (fun i => nI (g_sum (fun p => g_sum (fun s => if m_H M b p s = true then g_ct (m_nA M b p s) (len s) else 0) S) i)) (by omega) rfl (fun K i hi => ?_) (fun K => ?_)
  · unfold f_X12_gapsAll_4
    rw [if_neg (nI_ge hi (by omega)), m_gapsOf len hb (by omega) hS hl, gs_b1_s, nI_add, nI_1 i, g_sum]
  · unfold f_X12_gapsAll_4
    exact if_pos (nI_le (Nat.le_refl _) (by omega))
theorem m_seekers {M : Nat → Int32} {P : Nat} (hP : P ≤ 7) : f_X12_seekers (nI P) M = some (nI (g_mk (fun p => !(M (351 + p) == -1)) P)) := by
  unfold f_X12_seekers
  refine g_la P (fun i => nI (g_mk (fun p => !(M (351 + p) == -1)) i)) (by omega) rfl (fun K i hi => ?_) (fun K => ?_)
  · unfold f_X12_seekers_4
    have e : (351 : Int32) + nI i = nI (351 + i) := nI_add 351 i
    rw [if_neg (nI_ge hi (by omega)), e, gs_gd_t (gs_in_nI (by omega) (by decide)), nI_clamp (by omega), nI_1 i]
    by_cases h : M (351 + i) = -1
    · rw [if_pos h, g_or0, g_mk_f (g := fun p => !(M (351 + p) == -1)) (i := i) (by simp [h])]
    · rw [if_neg h, g_mk_t (g := fun p => !(M (351 + p) == -1)) (by omega) (by simp [h])]
  · unfold f_X12_seekers_4
    exact if_pos (nI_le (Nat.le_refl _) (by omega))
theorem m_wholeOnes {M L : Nat → Int32} {b s P n : Nat} (hb : b ≤ 372) (hs : s < 5) (hP : P ≤ 7) (hl : L s = nI n) (hn : n ≤ 8) : f_X12_wholeOnes (nI b) (nI s) (nI P) L M = some (nI (g_mk (fun p => m_H M b p s && (g_mk (m_nA M b p s) n == 0)) P)) := by
  unfold f_X12_wholeOnes
  refine g_la P (fun i => nI (g_mk (fun p => m_H M b p s && (g_mk (m_nA M b p s) n == 0)) i)) (by omega) rfl (fun K i hi => ?_) (fun K => ?_)
  · unfold f_X12_wholeOnes_5
    rw [if_neg (nI_ge hi (by omega)), m_has hb (by omega) hs, gs_b1_s, nI_1 i]
    by_cases h : m_H M b i s = true
    · rw [if_pos h, if_neg (by decide), m_gapsIn hb (by omega) hs hl hn, gs_b1_s]
      by_cases h2 : g_mk (m_nA M b i s) n = 0
      · rw [if_pos ((m_mk0 hn).mpr h2), g_mk_t (g := fun p => m_H M b p s && (g_mk (m_nA M b p s) n == 0)) (by omega) (by simp [h, h2])]
      · rw [if_neg (fun q => h2 ((m_mk0 hn).mp q)), g_or0, g_mk_f (g := fun p => m_H M b p s && (g_mk (m_nA M b p s) n == 0)) (i := i) (by simp [h2])]
    · rw [if_neg h, if_pos rfl, g_or0, g_mk_f (g := fun p => m_H M b p s && (g_mk (m_nA M b p s) n == 0)) (i := i) (by simp [h])]
  · unfold f_X12_wholeOnes_5
    exact if_pos (nI_le (Nat.le_refl _) (by omega))
def m_ul (M : Nat → Int32) (p o s k : Nat) : Bool := !(M (1 + 40 * p + 8 * s + k) == -1) && !(M (1 + 40 * o + 8 * s + k) == -1) && !(M (1 + 40 * p + 8 * s + k) == M (1 + 40 * o + 8 * s + k))
theorem m_unlike {M L : Nat → Int32} {p o s n : Nat} (hp : p < 7) (ho : o < 7) (hs : s < 5) (hl : L s = nI n) (hn : n ≤ 8) : f_X12_unlike (nI p) (nI o) (nI s) L M = some (nI (g_ct (m_ul M p o s) n)) := by
  unfold f_X12_unlike
  refine g_la n (fun i => nI (g_ct (m_ul M p o s) i)) (by omega) rfl (fun K i hi => ?_) (fun K => ?_)
  · unfold f_X12_unlike_6
    rw [gs_gd_t (gs_in_nI hs (by decide)), nI_clamp (by omega), hl, if_neg (nI_ge hi (by omega)), m_noteAt, gs_b1_s, m_noteAt, gs_b1_s, gs_gd_t (gs_in_nI (by omega) (by decide)), gs_gd_t (gs_in_nI (by omega) (by decide)), nI_clamp (by omega), nI_clamp (by omega), nI_1 i]
    by_cases h1 : M (1 + 40 * p + 8 * s + i) = -1
    · rw [if_pos h1, g_add0, g_ct_f (g := m_ul M p o s) (i := i) (by simp [m_ul, h1])]
    · rw [if_neg h1]
      by_cases h2 : M (1 + 40 * o + 8 * s + i) = -1
      · rw [if_pos h2, g_add0, g_ct_f (g := m_ul M p o s) (i := i) (by simp [m_ul, h2])]
      · rw [if_neg h2]
        by_cases h3 : M (1 + 40 * p + 8 * s + i) = M (1 + 40 * o + 8 * s + i)
        · rw [if_pos h3, g_add0, g_ct_f (g := m_ul M p o s) (i := i) (by simp [m_ul, h3])]
        · rw [if_neg h3, g_ct_t (g := m_ul M p o s) (i := i) (by simp [m_ul, h1, h2, h3])]
  · unfold f_X12_unlike_6
    rw [gs_gd_t (gs_in_nI hs (by decide)), nI_clamp (by omega), hl, if_pos (nI_le (Nat.le_refl _) (by omega))]
theorem m_unlikeAll {M L : Nat → Int32} {p s P n : Nat} (hp : p < 7) (hs : s < 5) (hP : P ≤ 7) (hl : L s = nI n) (hn : n ≤ 8) : f_X12_unlikeAll (nI p) (nI s) (nI P) L M = some (nI (g_sum (fun o => if (!(o == p) && m_H M 0 o s) = true then g_ct (m_ul M p o s) n else 0) P)) := by
  unfold f_X12_unlikeAll
  refine g_la P (fun i => nI (g_sum (fun o => if (!(o == p) && m_H M 0 o s) = true then g_ct (m_ul M p o s) n else 0) i)) (by omega) rfl (fun K i hi => ?_) (fun K => ?_)
  · unfold f_X12_unlikeAll_5
    rw [if_neg (nI_ge hi (by omega)), nI_1 i, g_sum]
    by_cases he : i = p
    · rw [if_pos (by rw [he]), g_add0, if_neg (by simp [he])]
      rfl
    · have hh : f_X12_doesHave 0 (nI i) (nI s) M = some (if m_H M 0 i s = true then 1 else 0) := m_has (b := 0) (by omega) (by omega) hs M
      rw [if_neg (fun q => he ((nI_eq (by omega) (by omega)).mp q)), hh, gs_b1_s]
      by_cases h : m_H M 0 i s = true
      · rw [if_pos h, if_neg (by decide), m_unlike hp (by omega) hs hl hn, gs_b1_s, nI_add, if_pos (by simp [he, h])]
      · rw [if_neg h, if_pos rfl, g_add0, if_neg (by simp [h])]
        rfl
  · unfold f_X12_unlikeAll_5
    exact if_pos (nI_le (Nat.le_refl _) (by omega))
theorem m_songsOf {M : Nat → Int32} {b p S : Nat} (hb : b ≤ 372) (hp : p < 7) (hS : S ≤ 5) : f_X12_songsOf (nI b) (nI p) (nI S) M = some (nI (g_mk (fun s => m_H M b p s) S)) := by
  unfold f_X12_songsOf
  refine g_la S (fun i => nI (g_mk (fun s => m_H M b p s) i)) (by omega) rfl (fun K i hi => ?_) (fun K => ?_)
  · unfold f_X12_songsOf_5
    rw [if_neg (nI_ge hi (by omega)), m_has hb hp (by omega), gs_b1_s, nI_1 i]
    by_cases h : m_H M b p i = true
    · rw [if_pos h, if_neg (by decide), g_mk_t (g := fun s => m_H M b p s) (by omega) h]
    · rw [if_neg h, if_pos rfl, g_or0, g_mk_f (g := fun s => m_H M b p s) (i := i) (Bool.eq_false_iff.mpr h)]
  · unfold f_X12_songsOf_5
    exact if_pos (nI_le (Nat.le_refl _) (by omega))
theorem m_pupils {M : Nat → Int32} {b s P : Nat} (t : Int32) (hb : b ≤ 372) (hs : s < 5) (hP : P ≤ 7) : f_X12_pupils (nI b) t (nI s) (nI P) M = some (nI (g_mk (fun o => M (b + 316 + 5 * o + s) == t) P)) := by
  unfold f_X12_pupils
  refine g_la P (fun i => nI (g_mk (fun o => M (b + 316 + 5 * o + s) == t) i)) (by omega) rfl (fun K i hi => ?_) (fun K => ?_)
  · unfold f_X12_pupils_6
    rw [if_neg (nI_ge hi (by omega)), m_ixT, gs_gd_t (gs_in_nI (by omega) (by decide)), nI_clamp (by omega), nI_1 i]
    by_cases h : M (b + 316 + 5 * i + s) = t
    · rw [if_pos h, g_mk_t (g := fun o => M (b + 316 + 5 * o + s) == t) (by omega) (by simp [h])]
    · rw [if_neg h, g_or0, g_mk_f (g := fun o => M (b + 316 + 5 * o + s) == t) (i := i) (by simp [h])]
  · unfold f_X12_pupils_6
    exact if_pos (nI_le (Nat.le_refl _) (by omega))
