/-! ===== pure rows: what the class sees in a state ===== -/
def g_nA (x : Int32) (k : Nat) : Bool := g_nt x k == -1
def g_sum (f : Nat → Nat) : Nat → Nat
  | 0 => 0
  | n + 1 => g_sum f n + f n
theorem g_sum_cong {f h : Nat → Nat} : ∀ {n : Nat}, (∀ k, k < n → f k = h k) → g_sum f n = g_sum h n
  | 0, _ => rfl
  | n + 1, e => by rw [g_sum, g_sum, e n (by omega), g_sum_cong (fun k hk => e k (by omega))]
theorem g_sum_le {f : Nat → Nat} {m : Nat} : ∀ {n : Nat}, (∀ k, k < n → f k ≤ m) → g_sum f n ≤ n * m
  | 0, _ => by rw [g_sum]; omega
  | n + 1, e => by
    have h1 := e n (by omega)
    have h2 := g_sum_le (n := n) (fun k hk => e k (by omega))
    rw [g_sum, Nat.add_mul, Nat.one_mul]
    omega
theorem g_ix7 (p s : Nat) : (8 + (nI p * 5)) + nI s = nI (8 + 5 * p + s) := by
  show (nI 8 + (nI p * nI 5)) + nI s = _
  rw [gs_mul, nI_add, nI_add, Nat.mul_comm]
theorem g_ix7t (p s : Nat) : (43 + (nI p * 5)) + nI s = nI (43 + 5 * p + s) := by
  show (nI 43 + (nI p * nI 5)) + nI s = _
  rw [gs_mul, nI_add, nI_add, Nat.mul_comm]
theorem g_notes {p s : Nat} (hp : p < 7) (hs : s < 5) (r : Nat → Int32) : f_X7_notes (nI p) (nI s) r = some (r (8 + 5 * p + s)) := by
  unfold f_X7_notes
  rw [g_ix7, gs_gd_t (gs_in_nI (by omega) (by decide)), nI_clamp (by omega)]
theorem g_holds {p s : Nat} (hp : p < 7) (hs : s < 5) (r : Nat → Int32) : f_X7_holds (nI p) (nI s) r = some (if r (8 + 5 * p + s) = -1 then 0 else 1) := by
  unfold f_X7_holds
  rw [g_notes hp hs, gs_b1_s]
  split <;> rfl
theorem g_teacher {p s : Nat} (hp : p < 7) (hs : s < 5) (r : Nat → Int32) : f_X7_teacher (nI p) (nI s) r = some (r (43 + 5 * p + s)) := by
  unfold f_X7_teacher
  rw [g_ix7t, gs_gd_t (gs_in_nI (by omega) (by decide)), nI_clamp (by omega)]
theorem g_setNotes {p s : Nat} (hp : p < 7) (hs : s < 5) (v : Int32) (r : Nat → Int32) : f_X7_setNotes (nI p) (nI s) v r = some (upd r (8 + 5 * p + s) v) := by
  unfold f_X7_setNotes
  rw [g_ix7, gs_gd_t (gs_in_nI (by omega) (by decide)), nI_clamp (by omega)]
theorem g_drop {p s : Nat} (hp : p < 7) (hs : s < 5) (r : Nat → Int32) : f_X7_drop (nI p) (nI s) r = some (upd r (8 + 5 * p + s) (-1)) := by
  unfold f_X7_drop
  rw [g_setNotes hp hs, gs_b1_s]
theorem g_setLearnt {p s : Nat} (hp : p < 7) (hs : s < 5) (v w : Int32) (r : Nat → Int32) : f_X7_setLearnt (nI p) (nI s) v w r = some (upd (upd r (8 + 5 * p + s) v) (43 + 5 * p + s) w) := by
  unfold f_X7_setLearnt
  rw [g_ix7, g_ix7t, gs_gd_t (gs_in_nI (by omega) (by decide)), gs_gd_t (gs_in_nI (by omega) (by decide)), nI_clamp (by omega), nI_clamp (by omega)]
theorem g_day (r : Nat → Int32) : f_X7_day r = some (r 0) := rfl
theorem g_nextDay (r : Nat → Int32) : f_X7_nextDay r = some (upd r 0 (r 0 + 1)) := rfl
theorem g_ix7s (p : Nat) : 1 + nI p = nI (1 + p) := nI_add 1 p
theorem g_seeks {p : Nat} (hp : p < 7) (r : Nat → Int32) : f_X7_seeks (nI p) r = some (if r (1 + p) = -1 then 0 else 1) := by
  unfold f_X7_seeks
  rw [g_ix7s, gs_gd_t (gs_in_nI (by omega) (by decide)), nI_clamp (by omega)]
  split <;> rfl
theorem g_soughtSong {p : Nat} (hp : p < 7) (r : Nat → Int32) : f_X7_soughtSong (nI p) r = some (if r (1 + p) = -1 then -1 else r (1 + p) / 7) := by
  unfold f_X7_soughtSong
  rw [g_seeks hp, gs_b1_s, g_ix7s, gs_gd_t (gs_in_nI (by omega) (by decide)), nI_clamp (by omega)]
  split
  · rw [if_pos rfl]
  · rw [if_neg (by decide)]
theorem g_soughtOf {p : Nat} (hp : p < 7) (r : Nat → Int32) : f_X7_soughtOf (nI p) r = some (if r (1 + p) = -1 then -1 else r (1 + p) - r (1 + p) / 7 * 7) := by
  unfold f_X7_soughtOf
  rw [g_seeks hp, gs_b1_s, g_ix7s, gs_gd_t (gs_in_nI (by omega) (by decide)), nI_clamp (by omega)]
  split
  · rw [if_pos rfl]
  · rw [if_neg (by decide)]
theorem g_setSought {p s o : Nat} (hp : p < 7) (r : Nat → Int32) : f_X7_setSought (nI p) (nI s) (nI o) r = some (upd r (1 + p) (nI (7 * s + o))) := by
  unfold f_X7_setSought
  rw [g_ix7s, gs_gd_t (gs_in_nI (by omega) (by decide)), nI_clamp (by omega)]
  have e : nI s * 7 + nI o = nI (7 * s + o) := by
    show nI s * nI 7 + nI o = _
    rw [gs_mul, nI_add, Nat.mul_comm]
  rw [e]
theorem g_seekNothing {p : Nat} (hp : p < 7) (r : Nat → Int32) : f_X7_seekNothing (nI p) r = some (upd r (1 + p) (-1)) := by
  unfold f_X7_seekNothing
  rw [g_ix7s, gs_gd_t (gs_in_nI (by omega) (by decide)), nI_clamp (by omega)]
theorem g_copyRow (r q : Nat → Int32) : f_X7_copyFrom r q = some (g_cpy q r 0 78) := by
  unfold f_X7_copyFrom
  rw [gs_gd_t (by decide)]
  have e0 : (0 : Int32).toNatClampNeg = 0 := rfl
  have e1 : (78 : Int32).toNatClampNeg = 78 := rfl
  rw [e0, e1]
  refine congrArg some (funext fun j => ?_)
  simp only [va_cpy, g_cpy, Nat.zero_add, Nat.sub_zero]
/-- gaps among the first n notes -/
theorem g_gapsAmong (x : Int32) {n : Nat} (hn : n ≤ 8) : f_X11_gapsAmong x (nI n) = some (nI (g_mk (g_nA x) n)) := by
  unfold f_X11_gapsAmong
  refine g_la n (fun i => nI (g_mk (g_nA x) i)) (by omega) rfl (fun K i hi => ?_) (fun K => ?_)
  · unfold f_X11_gapsAmong_4
    rw [if_neg (nI_ge hi (by omega)), g_noteAt x (by omega), gs_b1_s, nI_1 i]
    by_cases h : g_nt x i = -1
    · rw [if_pos h, g_mk_t (by omega) (by simp [g_nA, h])]
    · rw [if_neg h, g_mk_f (i := i) (by simp [g_nA, h])]
  · unfold f_X11_gapsAmong_4
    exact if_pos (nI_le (Nat.le_refl _) (by omega))
theorem g_gapsIn1 (x : Int32) {L : Nat → Int32} {s n : Nat} (hs : s < 5) (hl : L s = nI n) (hn : n ≤ 8) : f_X1_gapsIn (nI s) x L = some (nI (g_ct (g_nA x) n)) := by
  unfold f_X1_gapsIn
  rw [gs_gd_t (gs_in_nI hs (by decide)), nI_clamp (by omega), hl, g_gapsAmong x hn, gs_b1_s, g_bc _ hn, gs_b1_s]
theorem g_gapBits (x : Int32) {L : Nat → Int32} {s n : Nat} (hs : s < 5) (hl : L s = nI n) (hn : n ≤ 8) : f_X10_gapBits (nI s) x L = some (nI (if x = -1 then 0 else g_mk (g_nA x) n)) := by
  unfold f_X10_gapBits
  split
  · rfl
  · rw [gs_gd_t (gs_in_nI hs (by decide)), nI_clamp (by omega), hl, g_gapsAmong x hn, gs_b1_s]
theorem g_gapCount (x : Int32) {L : Nat → Int32} {s n : Nat} (hs : s < 5) (hl : L s = nI n) (hn : n ≤ 8) : f_X10_gapCount (nI s) x L = some (nI (if x = -1 then 0 else g_ct (g_nA x) n)) := by
  unfold f_X10_gapCount
  rw [g_gapBits x hs hl hn, gs_b1_s]
  by_cases h : x = -1
  · rw [if_pos h, if_pos h]
    have e := g_bc0 0 (by decide)
    rw [e, gs_b1_s]
    rfl
  · rw [if_neg h, if_neg h, g_bc _ hn, gs_b1_s]
theorem g_noteCount (x : Int32) {L : Nat → Int32} {s n : Nat} (hs : s < 5) (hl : L s = nI n) (hn : n ≤ 8) : f_X10_noteCount (nI s) x L = some (nI (if x = -1 then 0 else n - g_ct (g_nA x) n)) := by
  unfold f_X10_noteCount
  by_cases h : x = -1
  · rw [if_pos h, if_pos h]
    rfl
  · rw [if_neg h, if_neg h, gs_gd_t (gs_in_nI hs (by decide)), g_gapCount x hs hl hn, gs_b1_s, nI_clamp (by omega), hl, if_neg h, pk_sub (g_ct_le _ _)]
theorem g_likeFirst (x : Int32) {L Fs : Nat → Int32} {s n : Nat} (hs : s < 5) (hl : L s = nI n) (hn : n ≤ 8) : f_X10_likeFirst (nI s) x L Fs = some (nI (g_ct (fun k => g_nt x k == g_nt (Fs s) k) n)) := by
  unfold f_X10_likeFirst
  refine g_la n (fun i => nI (g_ct (fun k => g_nt x k == g_nt (Fs s) k) i)) (by omega) rfl (fun K i hi => ?_) (fun K => ?_)
  · unfold f_X10_likeFirst_5
    rw [gs_gd_t (gs_in_nI hs (by decide)), nI_clamp (by omega), hl, if_neg (nI_ge hi (by omega)), g_noteAt x (by omega), gs_b1_s, gs_gd_t (gs_in_nI hs (by decide)), g_noteAt _ (by omega), gs_b1_s, nI_1 i]
    by_cases h : g_nt x i = g_nt (Fs s) i
    · rw [if_pos h, g_ct_t (g := fun k => g_nt x k == g_nt (Fs s) k) (i := i) (by simp [h])]
    · rw [if_neg h, g_ct_f (g := fun k => g_nt x k == g_nt (Fs s) k) (i := i) (by simp [h])]
  · unfold f_X10_likeFirst_5
    rw [gs_gd_t (gs_in_nI hs (by decide)), nI_clamp (by omega), hl, if_pos (nI_le (Nat.le_refl _) (by omega))]
/-- who holds what, in a row of the class -/
def g_H (C : Nat → Int32) (p s : Nat) : Bool := !(C (8 + 5 * p + s) == -1)
theorem g_holdsB {p s : Nat} (hp : p < 7) (hs : s < 5) (r : Nat → Int32) : f_X7_holds (nI p) (nI s) r = some (if g_H r p s = true then 1 else 0) := by
  rw [g_holds hp hs]
  unfold g_H
  by_cases h : r (8 + 5 * p + s) = -1
  · simp [h]
  · simp [h]
theorem g_songsOf {C : Nat → Int32} {p S : Nat} (hp : p < 7) (hS : S ≤ 5) : f_X10_songsOf (nI p) (nI S) C = some (nI (g_mk (fun s => g_H C p s) S)) := by
  unfold f_X10_songsOf
  refine g_la S (fun i => nI (g_mk (fun s => g_H C p s) i)) (by omega) rfl (fun K i hi => ?_) (fun K => ?_)
  · unfold f_X10_songsOf_5
    rw [if_neg (nI_ge hi (by omega)), g_holdsB hp (by omega), gs_b1_s, nI_1 i]
    by_cases h : g_H C p i = true
    · rw [if_pos h, if_neg (by decide), g_mk_t (g := fun s => g_H C p s) (by omega) h]
    · rw [if_neg h, if_pos rfl, g_mk_f (g := fun s => g_H C p s) (i := i) (Bool.eq_false_iff.mpr h)]
  · unfold f_X10_songsOf_5
    exact if_pos (nI_le (Nat.le_refl _) (by omega))
theorem g_singers {C : Nat → Int32} {s P : Nat} (hs : s < 5) (hP : P ≤ 7) : f_X10_singers (nI s) (nI P) C = some (nI (g_mk (fun p => g_H C p s) P)) := by
  unfold f_X10_singers
  refine g_la P (fun i => nI (g_mk (fun p => g_H C p s) i)) (by omega) rfl (fun K i hi => ?_) (fun K => ?_)
  · unfold f_X10_singers_5
    rw [if_neg (nI_ge hi (by omega)), g_holdsB (by omega) hs, gs_b1_s, nI_1 i]
    by_cases h : g_H C i s = true
    · rw [if_pos h, if_neg (by decide), g_mk_t (g := fun p => g_H C p s) (by omega) h]
    · rw [if_neg h, if_pos rfl, g_mk_f (g := fun p => g_H C p s) (i := i) (Bool.eq_false_iff.mpr h)]
  · unfold f_X10_singers_5
    exact if_pos (nI_le (Nat.le_refl _) (by omega))
/-- one has it, with gaps -/
def g_rd (C : Nat → Int32) (n p s : Nat) : Bool := g_H C p s && !(g_mk (g_nA (C (8 + 5 * p + s))) n == 0)
theorem g_gb0 {C : Nat → Int32} {n p s : Nat} (hn : n ≤ 8) : (nI (if C (8 + 5 * p + s) = -1 then 0 else g_mk (g_nA (C (8 + 5 * p + s))) n) = 0) ↔ g_rd C n p s = false := by
  have hm := g_mk_256 (g_nA (C (8 + 5 * p + s))) hn
  unfold g_rd g_H
  by_cases h : C (8 + 5 * p + s) = -1
  · simp only [h, if_true, beq_self_eq_true, Bool.not_true, Bool.false_and]
    exact ⟨fun _ => trivial, fun _ => rfl⟩
  · rw [if_neg h]
    rw [show (0 : Int32) = nI 0 from rfl, nI_eq (by omega) (by decide)]
    simp [h]
theorem g_readyTeachers {C L : Nat → Int32} {s P n : Nat} (hs : s < 5) (hP : P ≤ 7) (hl : L s = nI n) (hn : n ≤ 8) : f_X10_readyTeachers (nI s) (nI P) L C = some (nI (g_mk (fun p => g_rd C n p s) P)) := by
  unfold f_X10_readyTeachers
  refine g_la P (fun i => nI (g_mk (fun p => g_rd C n p s) i)) (by omega) rfl (fun K i hi => ?_) (fun K => ?_)
  · unfold f_X10_readyTeachers_5
    rw [if_neg (nI_ge hi (by omega)), g_notes (by omega) hs, gs_b1_s, g_gapBits _ hs hl hn, gs_b1_s, nI_1 i]
    by_cases h : g_rd C n i s = true
    · rw [if_neg (fun q => by rw [(g_gb0 hn).mp q] at h; exact Bool.false_ne_true h), g_mk_t (g := fun p => g_rd C n p s) (by omega) h]
    · rw [if_pos ((g_gb0 hn).mpr (Bool.eq_false_iff.mpr h)), g_mk_f (g := fun p => g_rd C n p s) (i := i) (Bool.eq_false_iff.mpr h)]
  · unfold f_X10_readyTeachers_5
    exact if_pos (nI_le (Nat.le_refl _) (by omega))
theorem g_andnot : ∀ a, a < 128 → ∀ b, b < 128 → (nI a &&& (nI b ^^^ (-1))) = nI (a &&& (127 - b)) := by decide +kernel
theorem g_mk_diff (g h : Nat → Bool) (hgh : ∀ k, h k = true → g k = true) : ∀ n, n ≤ 7 → nI (g_mk g n) &&& (nI (g_mk h n) ^^^ (-1)) = nI (g_mk (fun k => g k && !h k) n) := by
  intro n hn
  have l1 : g_mk g n < 128 := Nat.lt_of_lt_of_le (g_mk_lt g n) (Nat.pow_le_pow_right (by decide) hn)
  have l2 : g_mk h n < 128 := Nat.lt_of_lt_of_le (g_mk_lt h n) (Nat.pow_le_pow_right (by decide) hn)
  rw [g_andnot _ l1 _ l2]
  refine congrArg nI ?_
  apply Nat.eq_of_testBit_eq
  intro i
  rw [Nat.testBit_and, g_mk_bit, g_mk_bit]
  rcases Nat.lt_or_ge i n with hi | hi
  · have e : (127 - g_mk h n).testBit i = !(g_mk h n).testBit i := by
      have := Nat.testBit_two_pow_sub_succ (show g_mk h n < 2 ^ 7 from l2) i
      rw [show 127 - g_mk h n = 2 ^ 7 - (g_mk h n + 1) by omega, this]
      simp [show i < 7 by omega]
    rw [e, g_mk_bit]
    simp [hi]
  · simp [show ¬ i < n by omega]
theorem g_wholeSingers {C L : Nat → Int32} {s P n : Nat} (hs : s < 5) (hP : P ≤ 7) (hl : L s = nI n) (hn : n ≤ 8) : f_X10_wholeSingers (nI s) (nI P) L C = some (nI (g_mk (fun p => g_H C p s && (g_mk (g_nA (C (8 + 5 * p + s))) n == 0)) P)) := by
  unfold f_X10_wholeSingers
  rw [g_singers hs hP, gs_b1_s, g_readyTeachers hs hP hl hn, gs_b1_s, g_mk_diff _ _ (fun k hk => by simp [g_rd] at hk; exact hk.1) P hP]
  refine congrArg (fun z => some (nI z)) (g_mk_cong (fun k _ => ?_))
  unfold g_rd
  cases g_H C k s <;> simp
theorem g_unsung {C : Nat → Int32} {S P : Nat} (hS : S ≤ 5) (hP : P ≤ 7) : f_X10_unsungSongs (nI S) (nI P) C = some (nI (g_mk (fun s => g_mk (fun p => g_H C p s) P == 0) S)) := by
  unfold f_X10_unsungSongs
  refine g_la S (fun i => nI (g_mk (fun s => g_mk (fun p => g_H C p s) P == 0) i)) (by omega) rfl (fun K i hi => ?_) (fun K => ?_)
  · unfold f_X10_unsungSongs_4
    have hm := g_mk_256 (fun p => g_H C p i) (n := P) (by omega)
    rw [if_neg (nI_ge hi (by omega)), g_singers (by omega) hP, gs_b1_s, nI_1 i]
    by_cases h : g_mk (fun p => g_H C p i) P = 0
    · rw [if_pos (by rw [h]; rfl), g_mk_t (g := fun s => g_mk (fun p => g_H C p s) P == 0) (by omega) (by simp [h])]
    · rw [if_neg (show ¬ nI (g_mk (fun p => g_H C p i) P) = 0 from fun q => h ((nI_eq (b := 0) (by omega) (by decide)).mp q)), g_mk_f (g := fun s => g_mk (fun p => g_H C p s) P == 0) (i := i) (by simp [h])]
  · unfold f_X10_unsungSongs_4
    exact if_pos (nI_le (Nat.le_refl _) (by omega))
theorem g_seekers {C : Nat → Int32} {P : Nat} (hP : P ≤ 7) : f_X10_seekers (nI P) C = some (nI (g_mk (fun p => !(C (1 + p) == -1)) P)) := by
  unfold f_X10_seekers
  refine g_la P (fun i => nI (g_mk (fun p => !(C (1 + p) == -1)) i)) (by omega) rfl (fun K i hi => ?_) (fun K => ?_)
  · unfold f_X10_seekers_4
    rw [if_neg (nI_ge hi (by omega)), g_seeks (by omega), gs_b1_s, nI_1 i]
    by_cases h : C (1 + i) = -1
    · rw [if_pos h, if_pos rfl, g_mk_f (g := fun p => !(C (1 + p) == -1)) (i := i) (by simp [h])]
    · rw [if_neg h, if_neg (by decide), g_mk_t (g := fun p => !(C (1 + p) == -1)) (by omega) (by simp [h])]
  · unfold f_X10_seekers_4
    exact if_pos (nI_le (Nat.le_refl _) (by omega))
theorem g_gapsOfPerson {C L : Nat → Int32} {p S : Nat} (len : Nat → Nat) (hp : p < 7) (hS : S ≤ 5) (hl : ∀ s, s < S → L s = nI (len s) ∧ len s ≤ 8) : f_X10_gapsOfPerson (nI p) (nI S) L C = some (nI (g_sum (fun s => if C (8 + 5 * p + s) = -1 then 0 else g_ct (g_nA (C (8 + 5 * p + s))) (len s)) S)) := by
  unfold f_X10_gapsOfPerson
  refine g_la S (fun i => nI (g_sum (fun s => if C (8 + 5 * p + s) = -1 then 0 else g_ct (g_nA (C (8 + 5 * p + s))) (len s)) i)) (by omega) rfl (fun K i hi => ?_) (fun K => ?_)
  · unfold f_X10_gapsOfPerson_5
    rw [if_neg (nI_ge hi (by omega)), g_notes hp (by omega), gs_b1_s, g_gapCount _ (by omega) (hl i hi).1 (hl i hi).2, gs_b1_s, nI_add, nI_1 i, g_sum]
  · unfold f_X10_gapsOfPerson_5
    exact if_pos (nI_le (Nat.le_refl _) (by omega))
theorem g_gapsOfAll {C L : Nat → Int32} {P S : Nat} (len : Nat → Nat) (hP : P ≤ 7) (hS : S ≤ 5) (hl : ∀ s, s < S → L s = nI (len s) ∧ len s ≤ 8) : f_X10_gapsOfAll (nI S) (nI P) L C = some (nI (g_sum (fun p => g_sum (fun s => if C (8 + 5 * p + s) = -1 then 0 else g_ct (g_nA (C (8 + 5 * p + s))) (len s)) S) P)) := by
  unfold f_X10_gapsOfAll
  refine g_la P (fun i => nI (g_sum (fun p => g_sum (fun s => if C (8 + 5 * p + s) = -1 then 0 else g_ct (g_nA (C (8 + 5 * p + s))) (len s)) S) i)) (by omega) rfl (fun K i hi => ?_) (fun K => ?_)
  · unfold f_X10_gapsOfAll_4
    rw [if_neg (nI_ge hi (by omega)), g_gapsOfPerson len (by omega) hS hl, gs_b1_s, nI_add, nI_1 i, g_sum]
  · unfold f_X10_gapsOfAll_4
    exact if_pos (nI_le (Nat.le_refl _) (by omega))
theorem g_canLearn {C L : Nat → Int32} {p s o n : Nat} (hp : p < 7) (hs : s < 5) (ho : o < 7) (hl : L s = nI n) (hn : n ≤ 8) : f_X10_canLearn (nI p) (nI s) (nI o) L C = some (if (!g_H C p s && g_rd C n o s) = true then 1 else 0) := by
  unfold f_X10_canLearn
  rw [g_holdsB hp hs, gs_b1_s]
  by_cases h : g_H C p s = true
  · rw [if_pos h, if_neg (by decide), if_neg (by simp [h])]
  · rw [if_neg h, if_pos rfl, g_notes ho hs, gs_b1_s, g_gapBits _ hs hl hn, gs_b1_s]
    by_cases h2 : g_rd C n o s = true
    · rw [if_neg (fun q => by rw [(g_gb0 hn).mp q] at h2; exact Bool.false_ne_true h2), if_pos (by simp [h, h2])]
    · rw [if_pos ((g_gb0 hn).mpr (Bool.eq_false_iff.mpr h2)), if_neg (by simp [h2])]
/-- places at which both have a note, another one -/
def g_ul (x y : Int32) (k : Nat) : Bool := !(g_nt x k == -1) && !(g_nt y k == -1) && !(g_nt x k == g_nt y k)
theorem g_unlike (x y : Int32) {L : Nat → Int32} {s n : Nat} (hs : s < 5) (hl : L s = nI n) (hn : n ≤ 8) : f_X10_unlike (nI s) x y L = some (nI (g_ct (g_ul x y) n)) := by
  unfold f_X10_unlike
  refine g_la n (fun i => nI (g_ct (g_ul x y) i)) (by omega) rfl (fun K i hi => ?_) (fun K => ?_)
  · unfold f_X10_unlike_6
    rw [gs_gd_t (gs_in_nI hs (by decide)), nI_clamp (by omega), hl, if_neg (nI_ge hi (by omega)), g_noteAt x (by omega), gs_b1_s, g_noteAt y (by omega), gs_b1_s, nI_1 i]
    by_cases h1 : g_nt x i = -1
    · rw [if_pos h1, g_ct_f (g := g_ul x y) (i := i) (by simp [g_ul, h1])]
    · rw [if_neg h1]
      by_cases h2 : g_nt y i = -1
      · rw [if_pos h2, g_ct_f (g := g_ul x y) (i := i) (by simp [g_ul, h2])]
      · rw [if_neg h2]
        by_cases h3 : g_nt x i = g_nt y i
        · rw [if_pos h3, g_ct_f (g := g_ul x y) (i := i) (by simp [g_ul, h3])]
        · rw [if_neg h3, g_ct_t (g := g_ul x y) (i := i) (by simp [g_ul, h1, h2, h3])]
  · unfold f_X10_unlike_6
    rw [gs_gd_t (gs_in_nI hs (by decide)), nI_clamp (by omega), hl, if_pos (nI_le (Nat.le_refl _) (by omega))]
theorem g_unlikeAll {C L : Nat → Int32} {p s P n : Nat} (hp : p < 7) (hs : s < 5) (hP : P ≤ 7) (hl : L s = nI n) (hn : n ≤ 8) : f_X10_unlikeAll (nI p) (nI s) (nI P) L C = some (nI (g_sum (fun o => if g_H C o s = true then g_ct (g_ul (C (8 + 5 * p + s)) (C (8 + 5 * o + s))) n else 0) P)) := by
  unfold f_X10_unlikeAll
  rw [if_neg (g_m1 (by omega))]
  refine g_la P (fun i => nI (g_sum (fun o => if g_H C o s = true then g_ct (g_ul (C (8 + 5 * p + s)) (C (8 + 5 * o + s))) n else 0) i)) (by omega) rfl (fun K i hi => ?_) (fun K => ?_)
  · unfold f_X10_unlikeAll_13
    rw [if_neg (nI_ge hi (by omega)), g_holdsB (by omega) hs, gs_b1_s, nI_1 i, g_sum]
    by_cases h : g_H C i s = true
    · rw [if_pos h, if_neg (by decide), g_notes hp hs, gs_b1_s, g_notes (by omega) hs, gs_b1_s, g_unlike _ _ hs hl hn, gs_b1_s, nI_add, if_pos h]
    · rw [if_neg h, if_pos rfl, if_neg h]
      rfl
  · unfold f_X10_unlikeAll_13
    exact if_pos (nI_le (Nat.le_refl _) (by omega))
theorem g_pupils {C : Nat → Int32} {s P : Nat} (t : Int32) (hs : s < 5) (hP : P ≤ 7) : f_X10_pupils t (nI s) (nI P) C = some (nI (g_mk (fun o => C (43 + 5 * o + s) == t) P)) := by
  unfold f_X10_pupils
  refine g_la P (fun i => nI (g_mk (fun o => C (43 + 5 * o + s) == t) i)) (by omega) rfl (fun K i hi => ?_) (fun K => ?_)
  · unfold f_X10_pupils_6
    rw [if_neg (nI_ge hi (by omega)), g_teacher (by omega) hs, gs_b1_s, nI_1 i]
    by_cases h : C (43 + 5 * i + s) = t
    · rw [if_pos h, g_mk_t (g := fun o => C (43 + 5 * o + s) == t) (by omega) (by simp [h])]
    · rw [if_neg h, g_mk_f (g := fun o => C (43 + 5 * o + s) == t) (i := i) (by simp [h])]
  · unfold f_X10_pupils_6
    exact if_pos (nI_le (Nat.le_refl _) (by omega))
