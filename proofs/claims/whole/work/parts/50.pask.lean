/-! ===== pure rows: ask ===== -/
theorem g_b9_s {α1 α2 α3 α4 α5 α6 α7 α8 α9 β : Type} {a1 : α1} {a2 : α2} {a3 : α3} {a4 : α4} {a5 : α5} {a6 : α6} {a7 : α7} {a8 : α8} {a9 : α9} {k : α1 → α2 → α3 → α4 → α5 → α6 → α7 → α8 → α9 → Option β} : gs_b9 (some (a1, a2, a3, a4, a5, a6, a7, a8, a9)) k = k a1 a2 a3 a4 a5 a6 a7 a8 a9 := rfl
theorem l_1shl : ∀ k, k < 63 → (1 : Int64) <<< ((nI k).toInt64 &&& 63) = lN (2 ^ k) := by decide +kernel
theorem l_0 : (0 : Int64) = lN 0 := rfl
/-- the bits of what was met -/
def g_ms (s : Nat → Nat) : Nat → Nat
  | 0 => 0
  | n + 1 => g_ms s n ||| 2 ^ s n
def g_bm (ok : Nat → Bool) (G : Nat → Nat) : Nat → Nat
  | 0 => 0
  | n + 1 => if ok n = true then g_bm ok G n ||| 2 ^ G n else g_bm ok G n
def g_nw (s : Nat → Nat) (a : Nat) : Bool := g_ct (fun b => s b == s a) a == 0
theorem g_or_lt {a b n : Nat} (ha : a < 2 ^ n) (hb : b < 2 ^ n) : a ||| b < 2 ^ n := Nat.or_lt_two_pow ha hb
theorem g_bm_lt {ok : Nat → Bool} {G : Nat → Nat} (h : ∀ g, G g < 63) : ∀ n, g_bm ok G n < 2 ^ 63
  | 0 => by rw [g_bm]; decide
  | n + 1 => by
    rw [g_bm]
    split
    · exact g_or_lt (g_bm_lt h n) (Nat.pow_lt_pow_right (by decide) (h n))
    · exact g_bm_lt h n
theorem g_ms_bit (s : Nat → Nat) (k : Nat) : ∀ n, (g_ms s n).testBit k = !(g_ct (fun b => s b == k) n == 0)
  | 0 => by simp [g_ms, g_ct]
  | n + 1 => by
    rw [g_ms, Nat.testBit_or, g_ms_bit s k n, Nat.testBit_two_pow, g_ct]
    by_cases e : s n = k
    · simp [e]
    · simp [e]
theorem g_ct_one {g h : Nat → Bool} {k : Nat} (hk : g k = false) (hh : ∀ j, h j = (g j || (j == k))) : ∀ n, k < n → g_ct h n = g_ct g n + 1
  | 0, q => absurd q (Nat.not_lt_zero _)
  | n + 1, q => by
    rw [g_ct, g_ct, hh n]
    rcases Nat.lt_or_ge k n with hl | hl
    · rw [g_ct_one hk hh n hl]
      have : (n == k) = false := by simp; omega
      rw [this, Bool.or_false]
      omega
    · have e : n = k := by omega
      subst e
      have e2 : g_ct h n = g_ct g n := g_ct_cong (fun j hj => by
        have z : (j == n) = false := by
          simp
          omega
        rw [hh j, z, Bool.or_false])
      rw [e2, hk]
      simp
theorem g_ms_ct {s : Nat → Nat} : ∀ n, (∀ a, a < n → s a < 64) → g_ct (Nat.testBit (g_ms s n)) 64 = g_ct (g_nw s) n
  | 0, _ => g_ct_0.mpr (fun k _ => by simp [g_ms])
  | n + 1, h => by
    show g_ct (Nat.testBit (g_ms s (n + 1))) 64 = g_ct (g_nw s) n + (if g_nw s n = true then 1 else 0)
    rw [← g_ms_ct n (fun a ha => h a (by omega)), g_ms]
    by_cases e : g_nw s n = true
    · rw [if_pos e]
      refine g_ct_one (k := s n) ?_ (fun j => ?_) 64 (h n (by omega))
      · rw [g_ms_bit]
        unfold g_nw at e
        rw [e]
        rfl
      · rw [Nat.testBit_or, Nat.testBit_two_pow]
        by_cases q : j = s n
        · simp [q]
        · have z1 : (j == s n) = false := by
            simp
            omega
          rw [decide_eq_false (fun z : s n = j => q z.symm), z1]
    · rw [if_neg e, Nat.add_zero]
      refine g_ct_cong (fun j _ => ?_)
      rw [Nat.testBit_or, Nat.testBit_two_pow]
      by_cases q : s n = j
      · have e' : g_nw s n = false := Bool.eq_false_iff.mpr e
        unfold g_nw at e'
        rw [← q, g_ms_bit, e']
        rfl
      · simp [q]
theorem g_ct_mono (g : Nat → Bool) {a b : Nat} (h : a ≤ b) (h0 : g_ct g b = 0) : g_ct g a = 0 := g_ct_0.mpr (fun k hk => g_ct_0.mp h0 k (by omega))
theorem g_gs_le {S : Nat} {len : Nat → Nat} (C : Nat → Int32) (p : Nat) (hS : S ≤ 5) (h8 : ∀ s, s < S → len s ≤ 8) : g_gs S len C p < 63 := by
  unfold g_gs
  have h := g_sum_le (f := fun s => if C (8 + 5 * p + s) = -1 then 0 else g_ct (g_nA (C (8 + 5 * p + s))) (len s)) (m := 8) (n := S) (fun s hs => by
    try dsimp only
    split
    · omega
    · have := g_ct_le (g_nA (C (8 + 5 * p + s))) (len s)
      have := h8 s hs
      omega)
  omega
theorem l_fill {n : Nat} (hn : n < 20000) (x : Int64) (r : Nat → Int64) : f_J7_fill_d0a16 n x r = some (fun j => if j < n then x else r j) := by
  unfold f_J7_fill_d0a16
  refine g_lb n (fun i => fun j => if j < i then x else r j) hn (funext fun j => (if_neg (Nat.not_lt_zero j)).symm) (fun K i hi => ?_) (fun K => ?_)
  · unfold f_J7_fill_d0a16_6
    rw [if_neg (show ¬ Int32.ofNat n ≤ nI i from nI_ge (b := n) hi (by omega)), gs_gd_t (gs_in_nI hi (by omega)), nI_1, nI_clamp (by omega)]
    refine congrArg (K (nI (i + 1))) (funext fun j => ?_)
    unfold vp_updL
    by_cases hj : j = i
    · rw [if_pos hj, if_pos (by omega)]
    · rw [if_neg hj]
      show (if j < i then x else r j) = _
      by_cases hb : j < i
      · rw [if_pos hb, if_pos (by omega)]
      · rw [if_neg hb, if_neg (by omega)]
  · unfold f_J7_fill_d0a16_6
    exact if_pos (nI_le (a := n) (Nat.le_refl _) (by omega))
section ASK
variable {P S D m : Nat} {len mem : Nat → Nat} {rF rL : Option (List Nat)} {C M L Fs W CC ML MF MW CM mems HR HM : Nat → Int32} {fF fT lF lT fA lA pr pm th : Int32}
/-- class: the sums of gaps by a guess -/
theorem k_note (hT : g_T P S len rF rL L Fs W CC fF fT lF lT ML MF MW CM fA lA) (hmem : ∀ p, p < P → mems p = nI (mem p)) (hR : g_R P S D len mem C M 0) {g : Nat} (hg : g / 10 < P) (tg fo pr pm : Int32) (v t tr : Nat → Int32) (gs : Nat → Int64) :
    ∃ a1 a2 a3 a4 a5, f_X11_noteGapSums (nI (g / 10)) (nI (g % 10)) (nI S) (nI P) fF fT lF lT L mems W CC C tg fo pr pm v t tr gs = some (a1, a2, -1, 0, a3, a4, a5, fun j => if j < P then gs j ||| lN (2 ^ g_gs S len (g_cS rF rL (g_me mem g) W P S len C 10) j) else gs j) := by
  obtain ⟨hP, hS, hlen, hF, hW, -, -⟩ := id hT
  have h8 : ∀ s, s < S → len s ≤ 8 := fun s hs => (hlen s hs).2.2.2
  have hR1 : ∀ tr : Nat → Int32, g_R P S D len (g_me mem g) (g_cpy C tr 0 78) (upd (g_cpy M M 372 372) (372 + 365 + g / 10) (nI (g % 10))) 372 := fun tr => (hR.tries (tr := tr) hP hS).memo hP hS hg
  have eg : ∀ p, p < P → g_sum (fun s => if g_cS rF rL (g_me mem g) W P S len (g_cpy C tr 0 78) 10 (8 + 5 * p + s) = -1 then 0 else g_ct (g_nA (g_cS rF rL (g_me mem g) W P S len (g_cpy C tr 0 78) 10 (8 + 5 * p + s))) (len s)) S = g_gs S len (g_cS rF rL (g_me mem g) W P S len C 10) p := by
    intro p hp
    have r1 := (s_R hT (hR1 tr) 10).1
    have r2 := hR1 C
    rw [g_cpy_self] at r2
    have r3 := (s_R hT r2 10).1
    exact g_sum_cong (fun s hs => (v_gsum r1 hp hs (h8 s hs)).trans (v_gsum r3 hp hs (h8 s hs)).symm)
  unfold f_X11_noteGapSums f_X1_pretend
  rw [g_copyRow, gs_b1_s, g_b2_s]
  have hr := g_run (z := fun _ _ _ _ _ _ => none) (b := f_X11_noteGapSums_22 (nI S) (nI P) fF fT lF lT L mems W CC (nI (g / 10)) (nI (g % 10)) gs (fun (v_t_course_taught' : Int32) (v_t_course_forgotten' : Int32) (r_t_course_reckoner_values' : Nat → Int32) (r_t_course_reckoner_stack' : Nat → Int32) (r_t_trial_row' : Nat → Int32) => f_X11_noteGapSums_46 (nI S) (nI P) L v_t_course_taught' v_t_course_forgotten' (nI (g / 10)) (nI (g % 10)) r_t_course_reckoner_values' r_t_course_reckoner_stack' r_t_trial_row' gs)) (ρ := Int32 × Int32 × Int32 × Int32 × (Nat → Int32) × (Nat → Int32) × (Nat → Int32) × (Nat → Int64)) (σ := Nat × Int32 × Int32 × (Nat → Int32) × (Nat → Int32))
    (fun K y => K (nI y.1) y.2.1 y.2.2.1 y.2.2.2.1 y.2.2.2.2 (g_cS rF rL (g_me mem g) W P S len (g_cpy C tr 0 78) y.1)) (fun y => 10 - y.1)
    (fun y r => y.1 ≤ 10 → ∃ a1 a2 a3 a4 a5, r = some (a1, a2, -1, 0, a3, a4, a5, fun j => if j < P then gs j ||| lN (2 ^ g_gs S len (g_cS rF rL (g_me mem g) W P S len C 10) j) else gs j))
    (by
      rintro K ⟨i, tg, fo, v, t⟩ ih hi
      replace hi : i ≤ 10 := hi
      show ∃ a1 a2 a3 a4 a5, f_X11_noteGapSums_22 (nI S) (nI P) fF fT lF lT L mems W CC (nI (g / 10)) (nI (g % 10)) gs _ K (nI i) tg fo v t (g_cS rF rL (g_me mem g) W P S len (g_cpy C tr 0 78) i) = _
      unfold f_X11_noteGapSums_22
      rcases Nat.lt_or_ge i 10 with hl2 | hl2
      · obtain ⟨v1, t1, e⟩ := s_C hT (k_mem1 hP hmem hg) (hR1 tr) i tg fo v t
        rw [if_neg (show ¬ (10 : Int32) ≤ nI i from nI_ge (b := 10) hl2 (by omega)), e, g_b5_s, nI_1 i]
        exact ih (i + 1, _, _, v1, t1) (by show 10 - (i + 1) < 10 - i; omega) (by show i + 1 ≤ 10; omega)
      · have e : i = 10 := by omega
        subst e
        rw [if_pos (by decide)]
        try dsimp only
        unfold f_X11_noteGapSums_46 f_X1_pretend
        rw [g_b2_s]
        refine ⟨tg, fo, v, t, g_cS rF rL (g_me mem g) W P S len (g_cpy C tr 0 78) 10, ?_⟩
        refine g_lb P (fun i => fun j => if j < i then gs j ||| lN (2 ^ g_gs S len (g_cS rF rL (g_me mem g) W P S len C 10) j) else gs j) (by omega) (funext fun j => (if_neg (Nat.not_lt_zero j)).symm) (fun K i hi => ?_) (fun K => ?_)
        · unfold f_X11_noteGapSums_57
          have hk := g_gs_le (S := S) (len := len) (g_cS rF rL (g_me mem g) W P S len C 10) i hS h8
          rw [if_neg (nI_ge hi (by omega)), gs_gd_t (gs_in_nI (by omega) (by decide)), g_gapsOfPerson len (by omega) hS (fun s hs => ⟨(hlen s hs).1, h8 s hs⟩), gs_b1_s, gs_gd_t (gs_in_nI (by omega) (by decide)), nI_clamp (by omega), nI_1 i, eg i hi, l_1shl _ hk]
          refine congrArg (K (nI (i + 1))) (funext fun j => ?_)
          unfold vp_updL
          try dsimp only
          by_cases hj : j = i
          · subst hj
            rw [if_pos rfl, if_pos (Nat.lt_succ_self j), if_neg (Nat.lt_irrefl j)]
          · rw [if_neg hj]
            by_cases hb : j < i
            · rw [if_pos hb, if_pos (by omega)]
            · rw [if_neg hb, if_neg (by omega)]
        · unfold f_X11_noteGapSums_57
          exact if_pos (nI_le (Nat.le_refl _) (by omega))) gs_fuel (0, tg, fo, v, t) (by show 10 - 0 < gs_fuel; rw [gs_fuel_eq]; omega) (Nat.zero_le _)
  exact hr
/-- model: is a number new among those ahead of it -/
theorem k_new {sa : Nat → Int32} {s : Nat → Nat} {p a n P : Nat} {x1 x3 x4 x6 th ln fn : Int32} {M u q sn : Nat → Int32} (hp : p < 7) (hn : n ≤ 70) (ha : a < n) (hs : ∀ a, a < n → sa (7 * a + p) = nI (s a) ∧ s a < 64) (K : Int32 → Option (Int32 × Int32 × Int32 × Int32 × (Nat → Int32) × (Nat → Int32) × (Nat → Int32) × (Nat → Int32) × (Nat → Int32))) :
    gs_it (fun _ _ => none) (f_X12_ask_123 x1 (nI n) x3 x4 (nI p) x6 (nI a) th (nI P) ln fn M u q sn sa K) gs_fuel 1 0 = K (if g_nw s a = true then 1 else 0) := by
  have h := g_run (z := fun _ _ => none) (b := f_X12_ask_123 x1 (nI n) x3 x4 (nI p) x6 (nI a) th (nI P) ln fn M u q sn sa K) (ρ := Int32 × Int32 × Int32 × Int32 × (Nat → Int32) × (Nat → Int32) × (Nat → Int32) × (Nat → Int32) × (Nat → Int32)) (σ := Nat)
    (fun K b => K (if g_ct (fun c => s c == s a) b = 0 then 1 else 0) (nI b)) (fun b => a - b) (fun b r => b ≤ a → r = K (if g_nw s a = true then 1 else 0))
    (fun K2 b ih hb => by
      show f_X12_ask_123 x1 (nI n) x3 x4 (nI p) x6 (nI a) th (nI P) ln fn M u q sn sa K K2 (if g_ct (fun c => s c == s a) b = 0 then 1 else 0) (nI b) = _
      unfold f_X12_ask_123
      rcases Nat.lt_or_ge b a with hl | hl
      · rw [if_neg (nI_ge hl (by omega))]
        by_cases c : g_ct (fun c => s c == s a) b = 0
        · have i1 : (7 : Int32) * nI a + nI p = nI (7 * a + p) := by
            show nI 7 * nI a + nI p = _
            rw [pk_mul, nI_add]
          have i2 : (7 : Int32) * nI b + nI p = nI (7 * b + p) := by
            show nI 7 * nI b + nI p = _
            rw [pk_mul, nI_add]
          have go := ih (b + 1) (by show a - (b + 1) < a - b; omega) (by omega)
          rw [if_pos c, if_neg n10, i1, i2, gs_gd_t (gs_in_nI (by omega) (by decide)), gs_gd_t (gs_in_nI (by omega) (by decide)), nI_clamp (n := 7 * a + p) (by omega), nI_clamp (n := 7 * b + p) (by omega), (hs a ha).1, (hs b (by omega)).1, nI_1 b]
          have ea := (hs a ha).2
          have eb := (hs b (by omega)).2
          have ec : g_ct (fun c => s c == s a) (b + 1) = if s b = s a then 1 else 0 := by
            rw [g_ct, c, Nat.zero_add]
            by_cases e : s b = s a
            · simp [e]
            · simp [e]
          by_cases e : s b = s a
          · rw [if_pos (by rw [e])]
            try dsimp only at go
            rw [ec, if_pos e, if_neg (by decide)] at go
            exact go
          · rw [if_neg (fun z => e ((nI_eq (by omega) (by omega)).mp z).symm)]
            try dsimp only at go
            rw [ec, if_neg e, if_pos rfl] at go
            exact go
        · rw [if_neg c, if_pos rfl]
          have : ¬ g_nw s a = true := by
            unfold g_nw
            intro z
            exact c (g_ct_mono _ (Nat.le_of_lt hl) (by simpa using z))
          rw [if_neg this]
      · have e : b = a := by omega
        subst e
        rw [if_pos (nI_le (Nat.le_refl _) (by omega))]
        refine congrArg K ?_
        unfold g_nw
        by_cases c : g_ct (fun c => s c == s b) b = 0
        · rw [if_pos c, if_pos (by simp [c])]
        · rw [if_neg c, if_neg (by simp [c])]) gs_fuel 0 (by show a - 0 < gs_fuel; rw [gs_fuel_eq]; omega) (Nat.zero_le _)
  exact h
/-- model: how many unlike ones -/
theorem k_many {sa : Nat → Int32} {s : Nat → Nat} {p n P : Nat} {x1 x3 x4 th ln fn : Int32} {M u q sn : Nat → Int32} (hp : p < 7) (hn : n ≤ 70) (hs : ∀ a, a < n → sa (7 * a + p) = nI (s a) ∧ s a < 64) (K : Int32 → Option (Int32 × Int32 × Int32 × Int32 × (Nat → Int32) × (Nat → Int32) × (Nat → Int32) × (Nat → Int32) × (Nat → Int32))) :
    gs_it (fun _ _ => none) (f_X12_ask_111 x1 (nI n) x3 x4 (nI p) th (nI P) ln fn M u q sn sa K) gs_fuel 0 0 = K (nI (g_ct (g_nw s) n)) := by
  refine g_la n (fun a => nI (g_ct (g_nw s) a)) (by omega) rfl (fun K2 a ha => ?_) (fun K2 => ?_)
  · unfold f_X12_ask_111
    rw [if_neg (nI_ge ha (by omega)), k_new hp hn ha hs]
    unfold f_X12_ask_177
    rw [nI_1 a]
    by_cases c : g_nw s a = true
    · rw [if_pos c, if_neg n10, g_ct_t c]
    · rw [if_neg c, if_pos rfl, g_add0, g_ct_f (Bool.eq_false_iff.mpr c)]
  · unfold f_X12_ask_111
    rw [if_pos (nI_le (Nat.le_refl _) (by omega))]
/-- model: the last loop -/
theorem k_lastM {sa : Nat → Int32} {s : Nat → Nat → Nat} {c : Nat → Nat} {n P k : Nat} {th ln fn : Int32} {M u q sn : Nat → Int32} (hP : P ≤ 7) (hn : n ≤ 70) (hs : ∀ a, a < n → ∀ p, p < P → sa (7 * a + p) = nI (s a p) ∧ s a p < 64) (hc : ∀ p, p < P → c p = g_ct (g_nw (fun a => s a p)) n) :
    f_X12_ask_88 (nI k) (nI n) th (nI P) ln fn M u q sn sa = some (if nI k = 0 then (g_agr c P).1 else nI (g_agr c P).2, th, ln, fn, M, u, q, sn, sa) := by
  unfold f_X12_ask_88
  have hle : ∀ i, i ≤ P → (g_agr c i).2 ≤ 70 := by
    intro i
    induction i with
    | zero => intro _; exact Nat.zero_le _
    | succ i ih =>
      intro hi
      rw [g_agr]
      split
      · show c i ≤ 70
        rw [hc i (by omega)]
        have := g_ct_le (g_nw (fun a => s a i)) n
        omega
      · exact ih (by omega)
  refine g_la2 P (fun i => (g_agr c i).1) (fun i => nI (g_agr c i).2) (by omega) rfl rfl (fun K i hi => ?_) (fun K => ?_)
  · unfold f_X12_ask_96
    have h1 := hle i (by omega)
    have h2 := g_ct_le (g_nw (fun a => s a i)) n
    rw [if_neg (nI_ge hi (by omega)), k_many (s := fun a => s a i) (by omega) hn (fun a ha => hs a ha i hi), ← hc i hi]
    rw [← hc i hi] at h2
    unfold f_X12_ask_198
    rw [nI_1 i, g_agr]
    by_cases e : (g_agr c i).2 < c i
    · rw [if_pos e, if_pos (nI_lt e (by omega))]
    · rw [if_neg e, if_neg (nI_nlt (by omega) (by omega))]
  · unfold f_X12_ask_96
    rw [if_pos (nI_le (Nat.le_refl _) (by omega))]
    by_cases e : nI k = 0
    · rw [if_pos e, if_pos e]
    · rw [if_neg e, if_neg e]
/-- class: the last loop -/
theorem k_lastC {gs : Nat → Int64} {c b : Nat → Nat} {P k : Nat} {tg fo pr pm : Int32} {v t tr : Nat → Int32} (hP : P ≤ 7) (hb : ∀ p, p < P → gs p = lN (b p) ∧ b p < 2 ^ 63) (hc : ∀ p, p < P → c p = g_ct (Nat.testBit (b p)) 64) :
    f_X11_ask_74 (nI k) (nI P) tg fo pr pm v t tr gs = some (if nI k = 0 then (g_agr c P).1 else nI (g_agr c P).2, tg, fo, pr, pm, v, t, tr, gs) := by
  unfold f_X11_ask_74
  have hle : ∀ i, i ≤ P → (g_agr c i).2 ≤ 70 := by
    intro i
    induction i with
    | zero => intro _; exact Nat.zero_le _
    | succ i ih =>
      intro hi
      rw [g_agr]
      split
      · show c i ≤ 70
        rw [hc i (by omega)]
        have := g_ct_le (Nat.testBit (b i)) 64
        omega
      · exact ih (by omega)
  refine g_la2 P (fun i => (g_agr c i).1) (fun i => nI (g_agr c i).2) (by omega) rfl rfl (fun K i hi => ?_) (fun K => ?_)
  · unfold f_X11_ask_81
    have h1 := hle i (by omega)
    have h2 := g_ct_le (Nat.testBit (b i)) 64
    rw [if_neg (nI_ge hi (by omega)), gs_gd_t (gs_in_nI (by omega) (by decide)), nI_clamp (by omega), (hb i hi).1, b_long (hb i hi).2, gs_b1_s, ← hc i hi, nI_1 i, g_agr]
    rw [← hc i hi] at h2
    by_cases e : (g_agr c i).2 < c i
    · rw [if_pos e, if_neg (nI_ge e (by omega))]
    · rw [if_neg e, if_pos (nI_le (by omega) (by omega))]
  · unfold f_X11_ask_81
    rw [if_pos (nI_le (Nat.le_refl _) (by omega))]
    by_cases e : nI k = 0
    · rw [if_pos e, if_pos e]
    · rw [if_neg e, if_neg e]
end ASK
