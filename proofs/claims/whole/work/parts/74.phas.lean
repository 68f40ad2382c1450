/-! ===== pure rows: the lines has, seeks ===== -/
/-- notes, with gaps by bits -/
def z_gp (x : Int32) (gv : Nat) : Nat → Int32
  | 0 => x
  | k + 1 => if gv.testBit k = true then g_wn (z_gp x gv k) k (-1) else z_gp x gv k
theorem z_gp_nt (x : Int32) (gv : Nat) : ∀ i, i ≤ 8 → ∀ k, k < 8 → g_nt (z_gp x gv i) k = if k < i ∧ gv.testBit k = true then -1 else g_nt x k
  | 0, _, k, hk => by rw [z_gp, if_neg (fun z => absurd z.1 (Nat.not_lt_zero _))]
  | i + 1, hi, k, hk => by
    have ih := z_gp_nt x gv i (by omega) k hk
    rw [z_gp]
    by_cases hb : gv.testBit i = true
    · rw [if_pos hb, g_nt_wn _ _ (by omega) hk]
      by_cases e : k = i
      · rw [if_pos e, g_nt_m 0 (by decide), if_pos ⟨by omega, by rw [e]; exact hb⟩]
      · rw [if_neg e, ih]
        by_cases z : k < i ∧ gv.testBit k = true
        · rw [if_pos z, if_pos ⟨by omega, z.2⟩]
        · rw [if_neg z, if_neg (fun y => z ⟨by omega, y.2⟩)]
    · rw [if_neg hb, ih]
      by_cases z : k < i ∧ gv.testBit k = true
      · rw [if_pos z, if_pos ⟨by omega, z.2⟩]
      · rw [if_neg z, if_neg (fun y => by
          by_cases e : k = i
          · rw [e] at y; exact hb y.2
          · exact z ⟨by omega, y.2⟩)]
/-- a row of the model, so many notes laid -/
def z_hs (src M : Nat → Int32) (q h gv i : Nat) : Nat → Int32 := if g_ct (fun k => !gv.testBit k) i = 0 then g_cpy src M q i else upd (g_cpy src M q i) h 1
theorem z_hs_s1 {src M : Nat → Int32} {q h gv i : Nat} (hb : gv.testBit i = true) (hq : q + i < h) : upd (z_hs src M q h gv i) (q + i) (src i) = z_hs src M q h gv (i + 1) := by
  unfold z_hs
  have e : g_ct (fun k => !gv.testBit k) (i + 1) = g_ct (fun k => !gv.testBit k) i := by
    rw [g_ct, hb]
    rfl
  rw [e]
  by_cases z : g_ct (fun k => !gv.testBit k) i = 0
  · rw [if_pos z, if_pos z, g_cpy_s]
  · rw [if_neg z, if_neg z, ← g_cpy_s]
    funext j
    by_cases j1 : j = q + i
    · rw [j1, pk_us, pk_un (by omega), pk_us]
    · by_cases j2 : j = h
      · rw [j2, pk_un (by omega), pk_us, pk_us]
      · rw [pk_un j1, pk_un j2, pk_un j2, pk_un j1]
theorem z_hs_s2 {src M : Nat → Int32} {q h gv i : Nat} (hb : gv.testBit i = false) (hq : q + i < h) : upd (upd (z_hs src M q h gv i) (q + i) (src i)) h 1 = z_hs src M q h gv (i + 1) := by
  unfold z_hs
  have e : g_ct (fun k => !gv.testBit k) (i + 1) = g_ct (fun k => !gv.testBit k) i + 1 := by
    rw [g_ct, hb]
    rfl
  rw [e, if_neg (show ¬ g_ct (fun k => !gv.testBit k) i + 1 = 0 by omega), ← g_cpy_s]
  funext j
  by_cases j2 : j = h
  · rw [j2, pk_us, pk_us]
  · rw [pk_un j2, pk_un j2]
    by_cases j1 : j = q + i
    · rw [j1, pk_us, pk_us]
    · rw [pk_un j1, pk_un j1]
      by_cases z : g_ct (fun k => !gv.testBit k) i = 0
      · rw [if_pos z]
      · rw [if_neg z, pk_un j2]
section HA
variable {c : Nat → Nat} {n : Nat} {tC tM : Nat → Int32}
theorem z_gapC {gv : Nat} (hg : gv < 256) (x1 x2 ats ki st va si f p x : Int32) (C TO : Nat → Int32) (K : Int32 → Option (Int32 × Int32 × Int32 × Int32 × Int32 × Int32 × Int32 × (Nat → Int32) × (Nat → Int32))) : gs_it (fun _ _ => none) (f_X5_readHas_101 x1 x2 (nI gv) ats ki st va si f p C TO K) gs_fuel x 0 = K (z_gp x gv 8) := by
  refine g_la 8 (fun i => z_gp x gv i) (by omega) rfl (fun K2 i hi => ?_) (fun K2 => ?_)
  · unfold f_X5_readHas_101
    rw [if_neg (show ¬ (8 : Int32) ≤ nI i from nI_ge (b := 8) hi (by omega)), g_sb gv hg i hi, nI_1, z_gp]
    by_cases hb : gv.testBit i = true
    · rw [if_pos (show nI (if gv.testBit i = true then 1 else 0) = 1 from by rw [if_pos hb]; rfl), g_withNote, gs_b1_s, if_pos hb]
    · rw [if_neg (show ¬ nI (if gv.testBit i = true then 1 else 0) = 1 from by rw [if_neg hb]; decide), if_neg hb]
  · unfold f_X5_readHas_101
    rw [if_pos (by decide)]
theorem z_60 {p s gv : Nat} (hp : p < 7) (hs : s < 5) (hg : gv < 256) {ats ki st va si f pl : Int32} {at2 ki2 st2 va2 si2 f2 pl2 at1 ki1 st1 va1 si1 : Int32} {tx Fs C TO : Nat → Int32} {L : Int32} (en : f_X8_next L ats ki st va si tx = some (at1, ki1, st1, va1, si1)) (er : f_X5_readNumber 255 L at1 ki1 st1 va1 si1 f pl tx = some (nI gv, at2, ki2, st2, va2, si2, f2, pl2)) : f_X5_readHas_60 (nI p) (nI s) L ats ki st va si f pl tx Fs C TO = some (at2, ki2, st2, va2, si2, f2, pl2, upd C (8 + 5 * p + s) (z_gp (Fs s) gv 8), upd TO p (TO p ||| ((1 : Int32) <<< (nI s &&& 31)))) := by
  unfold f_X5_readHas_60
  rw [en, g_b5_s, er, g_b8_s, gs_gd_t (gs_in_nI hp (by decide)), gs_gd_t (gs_in_nI hp (by decide)), gs_gd_t (gs_in_nI hs (by decide)), nI_clamp (n := p) (by omega), nI_clamp (n := s) (by omega), z_gapC hg]
  unfold f_X5_readHas_134
  rw [g_setNotes hp hs, gs_b1_s]
theorem z_605 {p s : Nat} (hp : p < 7) (hs : s < 5) {f : Int32} (hf : f ≠ 0) (L ats st va si pl : Int32) (tx Fs C TO : Nat → Int32) : ∃ (c1 c2 : Nat → Int32), f_X5_readHas_60 (nI p) (nI s) L ats 5 st va si f pl tx Fs C TO = some (ats, 5, st, va, si, f, pl, c1, c2) :=
  ⟨_, _, z_60 (gv := 0) hp hs (by decide) (k_next5 L ats st va si tx) (z_num5 hf 255 L ats st va si pl tx)⟩
/-- model: notes are laid -/
theorem z_hasM {p s len gv : Nat} (hp : p < 7) (hs : s < 5) (hlen : len ≤ 8) (hg : gv < 256) {ML MF M IT : Nat → Int32} (hl : ML s = nI len) (fk fp nx so pl lo va si : Int32) (wo : Int64) : gs_it (fun _ _ => none) (f_X12_readsHas_99 (nI p) (nI s) (nI gv) fk fp nx so pl lo va si wo ML MF IT) gs_fuel 0 M = some (fk, fp, nx, so, pl, lo, va, si, wo, z_hs (fun k => if gv.testBit k = true then -1 else MF (8 * s + k)) M (1 + 40 * p + 8 * s) (281 + 5 * p + s) gv len, IT) := by
  refine g_lb len (fun i => z_hs (fun k => if gv.testBit k = true then -1 else MF (8 * s + k)) M (1 + 40 * p + 8 * s) (281 + 5 * p + s) gv i) (by omega) ?_ (fun K i hi => ?_) (fun K => ?_)
  · unfold z_hs
    rw [if_pos (show g_ct (fun k => !gv.testBit k) 0 = 0 from rfl)]
    exact g_cpy_0 _ _ _
  · unfold f_X12_readsHas_99
    have i1 : ((1 : Int32) + (40 * nI p)) + (8 * nI s) + nI i = nI (1 + 40 * p + 8 * s + i) := by
      show ((nI 1 + (nI 40 * nI p)) + (nI 8 * nI s)) + nI i = _
      rw [pk_mul, pk_mul, nI_add, nI_add, nI_add]
    have i2 : (8 : Int32) * nI s + nI i = nI (8 * s + i) := by
      show nI 8 * nI s + nI i = _
      rw [pk_mul, nI_add]
    have i3 : ((281 : Int32) + (5 * nI p)) + nI s = nI (281 + 5 * p + s) := by
      show (nI 281 + (nI 5 * nI p)) + nI s = _
      rw [pk_mul, nI_add, nI_add]
    rw [gs_gd_t (gs_in_nI hs (by decide)), nI_clamp (n := s) (by omega), hl, if_neg (nI_ge hi (by omega)), g_sb gv hg i (by omega)]
    unfold f_X12_readsHas_124 f_X12_readsHas_165
    by_cases hb : gv.testBit i = true
    · rw [if_neg (show ¬ nI (if gv.testBit i = true then 1 else 0) = 0 from by rw [if_pos hb]; decide), if_pos rfl, i1, gs_gd_t (gs_in_nI (i := 1 + 40 * p + 8 * s + i) (n := 372) (by omega) (by decide)), if_pos rfl, nI_clamp (n := 1 + 40 * p + 8 * s + i) (by omega), nI_1]
      have := z_hs_s1 (src := fun k => if gv.testBit k = true then -1 else MF (8 * s + k)) (M := M) (q := 1 + 40 * p + 8 * s) (h := 281 + 5 * p + s) hb (by omega)
      try dsimp only at this
      rw [if_pos hb] at this
      rw [this]
    · rw [if_pos (show nI (if gv.testBit i = true then 1 else 0) = 0 from by rw [if_neg hb]; rfl), if_neg n10, i1, i2, i3, gs_gd_t (gs_in_nI (i := 8 * s + i) (n := 40) (by omega) (by decide)), gs_gd_t (gs_in_nI (i := 1 + 40 * p + 8 * s + i) (n := 372) (by omega) (by decide)), if_neg n10, gs_gd_t (gs_in_nI (i := 281 + 5 * p + s) (n := 372) (by omega) (by decide)), nI_clamp (n := 1 + 40 * p + 8 * s + i) (by omega), nI_clamp (n := 8 * s + i) (by omega), nI_clamp (n := 281 + 5 * p + s) (by omega), nI_1]
      have := z_hs_s2 (src := fun k => if gv.testBit k = true then -1 else MF (8 * s + k)) (M := M) (q := 1 + 40 * p + 8 * s) (h := 281 + 5 * p + s) (Bool.eq_false_iff.mpr hb) (by omega)
      try dsimp only at this
      rw [if_neg hb] at this
      rw [this]
  · unfold f_X12_readsHas_99
    rw [gs_gd_t (gs_in_nI hs (by decide)), nI_clamp (n := s) (by omega), hl, if_pos (nI_le (Nat.le_refl _) (by omega))]
theorem z_has (hn : n ≤ 700) (hC : ∀ j, j < n → c j < 256 ∧ tC j = sb_b (c j)) (hM : ∀ j, j < n → c j < 256 ∧ tM j = nI (c j)) {a0 P S : Nat} {va si : Int32} {len : Nat → Nat} (hP : P ≤ 7) (hS : S ≤ 5) (ha0 : a0 ≤ n) {Fs C TO ML MF M IT : Nat → Int32} (hlen : ∀ s, s < S → ML s = nI (len s) ∧ len s ≤ 8) (hTO : ∀ p, p < 7 → TO p = nI (g_mk (fun s => IT (5 * p + s) == 1) 5)) (hIT : ∀ p, p < 7 → ∀ s, s < 5 → IT (5 * p + s) = 0 ∨ IT (5 * p + s) = 1) :
    (∃ (a' p s gv : Nat) (va' si' : Int32), p < P ∧ s < S ∧ gv < 256 ∧ IT (5 * p + s) = 0 ∧ a' ≤ n ∧ t_Cv c n a' va' si' ∧ t_S c n a0 ≤ t_S c n a' ∧
        f_X5_readHas (nI n) (nI (t_E c n a0)) (nI (t_K c n a0)) (nI (t_S c n a0)) va si 0 (-1) tC (nI S) (nI P) Fs C TO = some (nI (t_E c n a'), nI (t_K c n a'), nI (t_S c n a'), va', si', 0, -1, upd C (8 + 5 * p + s) (z_gp (Fs s) gv 8), upd TO p (TO p ||| ((1 : Int32) <<< (nI s &&& 31)))) ∧
        f_X12_readsHas 0 (-1) (nI n) (nI (t_E c n (t_E c n a0))) (nI (t_K c n (t_E c n a0))) (nI (t_S c n (t_E c n a0))) (nI (t_E c n (t_E c n a0) - t_S c n (t_E c n a0))) (t_mv c n (t_E c n a0)) (t_ms c n (t_E c n a0)) (t_mw c n (t_E c n a0)) (nI S) (nI P) tM ML MF M IT = some (0, -1, nI (t_E c n a'), nI (t_K c n a'), nI (t_S c n a'), nI (t_E c n a' - t_S c n a'), t_mv c n a', t_ms c n a', t_mw c n a', z_hs (fun k => if gv.testBit k = true then -1 else MF (8 * s + k)) M (1 + 40 * p + 8 * s) (281 + 5 * p + s) gv (len s), upd IT (5 * p + s) 1)) ∨
    (∃ (f s : Nat), 0 < f ∧ f < 100 ∧ (∃ (ats st va' si' : Int32) (l1 l2 : Nat → Int32), f_X5_readHas (nI n) (nI (t_E c n a0)) (nI (t_K c n a0)) (nI (t_S c n a0)) va si 0 (-1) tC (nI S) (nI P) Fs C TO = some (ats, 5, st, va', si', nI f, nI s, l1, l2)) ∧
        ∃ r, f_X12_readsHas 0 (-1) (nI n) (nI (t_E c n (t_E c n a0))) (nI (t_K c n (t_E c n a0))) (nI (t_S c n (t_E c n a0))) (nI (t_E c n (t_E c n a0) - t_S c n (t_E c n a0))) (t_mv c n (t_E c n a0)) (t_ms c n (t_E c n a0)) (t_mw c n (t_E c n a0)) (nI S) (nI P) tM ML MF M IT = some (nI f, nI s, r)) := by
  obtain ⟨hE1, hE2, hE3⟩ := t_E_le c ha0
  have hKl0 := t_K_le c n a0
  have hk5 : nI (t_K c n a0) ≠ 5 := n_ne 5 5 rfl (by omega) (by decide) (by omega)
  obtain ⟨va1, si1, en, hv1⟩ := t_next hn hC hk5 (nI (t_S c n a0)) va si hE2
  obtain ⟨hE4, hE5, hE6⟩ := t_E_le c hE2
  obtain ⟨hE7, hE8, hE9⟩ := t_E_le c hE5
  obtain ⟨hE10, hE11, hE12⟩ := t_E_le c hE8
  obtain ⟨hS1, hS2⟩ := t_S_le c hE2
  obtain ⟨hS3, hS4⟩ := t_S_le c hE5
  obtain ⟨hS5, hS6⟩ := t_S_le c hE8
  obtain ⟨hS7, hS8⟩ := t_S_le c hE11
  have n10' : vp_nar .boolean 1 = 1 := by decide
  unfold f_X5_readHas f_X12_readsHas
  rw [en, g_b5_s]
  have z7 : ∀ x : Int32, gs_in 0 7 = true := fun _ => by decide
  -- a fault with nobody: the class goes on with the first
  have rest0 : ∀ {f : Nat} (hf1 : 0 < f) (hf2 : f < 100) (ats st va si pl : Int32), ∃ (l1 l2 : Nat → Int32), (if (((TO (0 : Int32).toNatClampNeg) >>> ((0 : Int32) &&& 31)) &&& 1) = 1 then gs_b3 (f_X8_fail 4 5 st (nI f) pl) fun o16_0 o16_1 o16_2 => f_X5_readHas_60 0 0 (nI n) ats o16_0 st va si o16_1 o16_2 tC Fs C TO else f_X5_readHas_60 0 0 (nI n) ats 5 st va si (nI f) pl tC Fs C TO) = some (ats, 5, st, va, si, nI f, pl, l1, l2) := by
    intro f hf1 hf2 ats st va si pl
    obtain ⟨c1, c2, e60⟩ := z_605 (p := 0) (s := 0) (by decide) (by decide) (x_fne hf1 hf2) (nI n) ats st va si pl tC Fs C TO
    refine ⟨c1, c2, ?_⟩
    rw [k_fail5 (x_fne hf1 hf2), g_b3_s]
    split <;> exact e60
  rcases z_one hn (many := P) (by omega) hE2 hv1 with ⟨kp, p, hp, hmp, ec, em⟩ | ⟨f, hf1, hf2, ec, em⟩
  · rw [ec, em, g_b4_s, g_b3_s, if_neg n10]
    have hk51 : nI (t_K c n (t_E c n a0)) ≠ 5 := n_ne 5 5 rfl (by omega) (by decide) (by omega)
    obtain ⟨va2, si2, en2, hv2⟩ := t_next hn hC hk51 (nI (t_S c n (t_E c n a0))) va1 si1 hE5
    rw [en2, g_b5_s, t_goes hn hM _ _ _ _ _ _ hE5, g_b7_s]
    rcases z_one hn (many := S) (by omega) hE5 hv2 with ⟨ks, s, hs, hms, ec2, em2⟩ | ⟨f, hf1, hf2, ec2, em2⟩
    · have hk52 : nI (t_K c n (t_E c n (t_E c n a0))) ≠ 5 := n_ne 5 5 rfl (by omega) (by decide) (by omega)
      obtain ⟨va3, si3, en3, hv3⟩ := t_next hn hC hk52 (nI (t_S c n (t_E c n (t_E c n a0)))) va2 si2 hE8
      have ix : (5 : Int32) * nI p + nI s = nI (5 * p + s) := by
        show nI 5 * nI p + nI s = _
        rw [pk_mul, nI_add]
      have hbit := w_bit (g := fun s => IT (5 * p + s) == 1) (P := 5) (p := s) (by omega) (by omega)
      rw [ec2, em2, g_b4_s, g_b3_s, if_neg n10, hmp, hms, gs_gd_t (gs_in_nI (i := p) (n := 7) (by omega) (by decide)), nI_clamp (n := p) (by omega), hTO p (by omega), ix, gs_gd_t (gs_in_nI (i := 5 * p + s) (n := 35) (by omega) (by decide)), nI_clamp (n := 5 * p + s) (by omega)]
      by_cases hit : IT (5 * p + s) = 0
      · have hnb : ¬ ((nI (g_mk (fun s => IT (5 * p + s) == 1) 5) >>> (nI s &&& 31)) &&& 1 = 1) := fun z => by
          have := hbit.mp z
          rw [hit] at this
          exact absurd this (by decide)
        rw [if_neg hnb, if_pos hit]
        unfold f_X12_readsHas_56
        rw [x_good0, gs_b1_s, if_neg n10, t_goes hn hM _ _ _ _ _ _ hE8, g_b7_s]
        rcases z_num hn hC hM (most := 255) (by decide) hE8 hv3 with ⟨-, gv, va4, si4, -, hg, hv4, ec3, em3⟩ | ⟨f, s2, v, hf1, hf2, ec3, em3⟩
        · left
          have ec3' : f_X5_readNumber 255 (nI n) (nI (t_E c n (t_E c n (t_E c n (t_E c n a0))))) (nI (t_K c n (t_E c n (t_E c n (t_E c n a0))))) (nI (t_S c n (t_E c n (t_E c n (t_E c n a0))))) va3 si3 0 (-1) tC = _ := ec3
          have em3' : f_X12_number 0 255 0 (-1) (nI n) (nI (t_E c n (t_E c n (t_E c n (t_E c n a0))))) (nI (t_K c n (t_E c n (t_E c n (t_E c n a0))))) (nI (t_S c n (t_E c n (t_E c n (t_E c n a0))))) (nI (t_E c n (t_E c n (t_E c n (t_E c n a0))) - t_S c n (t_E c n (t_E c n (t_E c n a0))))) (t_mv c n (t_E c n (t_E c n (t_E c n a0)))) (t_ms c n (t_E c n (t_E c n (t_E c n a0)))) (t_mw c n (t_E c n (t_E c n (t_E c n a0)))) tM = _ := em3
          rw [z_60 (p := p) (s := s) (gv := gv) (by omega) (by omega) (by omega) en3 ec3', em3', g_b10_s, x_good0, gs_b1_s, if_neg n10, ix, gs_gd_t (gs_in_nI (i := 5 * p + s) (n := 35) (by omega) (by decide)), nI_clamp (n := 5 * p + s) (by omega), z_hasM (by omega) (by omega) (hlen s hs).2 (by omega) (hlen s hs).1, n10']
          exact ⟨_, p, s, gv, va4, si4, hp, hs, by omega, hit, hE11, hv4, by omega, rfl, rfl⟩
        · right
          have ec3' : f_X5_readNumber 255 (nI n) (nI (t_E c n (t_E c n (t_E c n (t_E c n a0))))) (nI (t_K c n (t_E c n (t_E c n (t_E c n a0))))) (nI (t_S c n (t_E c n (t_E c n (t_E c n a0))))) va3 si3 0 (-1) tC = some (nI 0, _, _, _, _, _, _, _) := ec3
          have em3' : f_X12_number 0 255 0 (-1) (nI n) (nI (t_E c n (t_E c n (t_E c n (t_E c n a0))))) (nI (t_K c n (t_E c n (t_E c n (t_E c n a0))))) (nI (t_S c n (t_E c n (t_E c n (t_E c n a0))))) (nI (t_E c n (t_E c n (t_E c n (t_E c n a0))) - t_S c n (t_E c n (t_E c n (t_E c n a0))))) (t_mv c n (t_E c n (t_E c n (t_E c n a0)))) (t_ms c n (t_E c n (t_E c n (t_E c n a0)))) (t_mw c n (t_E c n (t_E c n (t_E c n a0)))) tM = _ := em3
          rw [z_60 (p := p) (s := s) (gv := 0) (by omega) (by omega) (by decide) en3 ec3', em3', g_b10_s, x_goodf hf1 hf2, gs_b1_s, if_pos rfl]
          exact ⟨f, s2, hf1, hf2, ⟨_, _, _, _, _, _, rfl⟩, ⟨_, rfl⟩⟩
      · right
        have h1 : IT (5 * p + s) = 1 := (hIT p (by omega) s (by omega)).resolve_left hit
        have hb : (nI (g_mk (fun s => IT (5 * p + s) == 1) 5) >>> (nI s &&& 31)) &&& 1 = 1 := hbit.mpr (by rw [h1]; rfl)
        obtain ⟨c1, c2, e60⟩ := z_605 (p := p) (s := s) (f := 4) (by omega) (by omega) (by decide) (nI n) (nI (t_E c n (t_E c n (t_E c n a0)))) (nI (t_S c n (t_E c n (t_E c n a0)))) va2 si2 (nI (t_S c n (t_E c n (t_E c n a0)))) tC Fs C TO
        have g4 : f_X12_isGood 4 = some 0 := by decide
        rw [if_pos hb, if_neg hit, k_fail0, g_b3_s, e60, x_wrong0, g_b2_s]
        unfold f_X12_readsHas_56
        rw [g4, gs_b1_s, if_pos rfl]
        exact ⟨4, t_S c n (t_E c n (t_E c n a0)), by decide, by decide, ⟨_, _, _, _, _, _, rfl⟩, ⟨_, rfl⟩⟩
    · right
      rw [ec2, em2, g_b4_s, g_b3_s, if_pos rfl, gs_gd_t (gs_in_nI (i := p) (n := 7) (by omega) (by decide))]
      obtain ⟨c1, c2, e60⟩ := z_605 (p := p) (s := 0) (by omega) (by decide) (x_fne hf1 hf2) (nI n) (nI (t_E c n (t_E c n (t_E c n a0)))) (nI (t_S c n (t_E c n (t_E c n a0)))) va2 si2 (nI (t_S c n (t_E c n (t_E c n a0)))) tC Fs C TO
      have e60' : f_X5_readHas_60 (nI p) 0 (nI n) (nI (t_E c n (t_E c n (t_E c n a0)))) 5 (nI (t_S c n (t_E c n (t_E c n a0)))) va2 si2 (nI f) (nI (t_S c n (t_E c n (t_E c n a0)))) tC Fs C TO = _ := e60
      refine ⟨f, t_S c n (t_E c n (t_E c n a0)), hf1, hf2, ⟨nI (t_E c n (t_E c n (t_E c n a0))), nI (t_S c n (t_E c n (t_E c n a0))), va2, si2, c1, c2, ?_⟩, ⟨_, rfl⟩⟩
      rw [k_fail5 (x_fne hf1 hf2), g_b3_s]
      split <;> exact e60'
  · right
    rw [ec, em, g_b4_s, g_b3_s, if_pos rfl, k_next5, g_b5_s, z_look5 (x_fne hf1 hf2), g_b4_s, gs_gd_t (by decide)]
    obtain ⟨l1, l2, e0⟩ := rest0 hf1 hf2 (nI (t_E c n (t_E c n a0))) (nI (t_S c n (t_E c n a0))) va1 si1 (nI (t_S c n (t_E c n a0)))
    exact ⟨f, _, hf1, hf2, ⟨_, _, _, _, l1, l2, e0⟩, ⟨_, rfl⟩⟩
/-- the line seeks -/
theorem z_895 {p s o : Nat} (hp : p < 7) {ats ki st va si at1 ki1 st1 va1 si1 f pl L : Int32} {tx C : Nat → Int32} (en : f_X8_next L ats ki st va si tx = some (at1, ki1, st1, va1, si1)) : f_X5_readSeeks_89 (nI p) (nI s) (nI o) L ats ki st va si f pl tx C = some (at1, ki1, st1, va1, si1, f, pl, upd C (1 + p) (nI (7 * s + o))) := by
  unfold f_X5_readSeeks_89
  rw [en, g_b5_s, g_setSought hp, gs_b1_s]
theorem z_seekT {p s o : Nat} (hp : p < 7) {f : Int32} (hf : f ≠ 0) (L ats st va si pl : Int32) (tx C : Nat → Int32) (x : Int32) : ∃ c1, (if nI o = x then gs_b3 (f_X8_fail 4 5 st f pl) fun o12_0 o12_1 o12_2 => f_X5_readSeeks_89 (nI p) (nI s) (nI o) L ats o12_0 st va si o12_1 o12_2 tx C else f_X5_readSeeks_89 (nI p) (nI s) (nI o) L ats 5 st va si f pl tx C) = some (ats, 5, st, va, si, f, pl, c1) := by
  have e := z_895 (p := p) (s := s) (o := o) (f := f) (pl := pl) (C := C) hp (k_next5 L ats st va si tx)
  refine ⟨upd C (1 + p) (nI (7 * s + o)), ?_⟩
  rw [k_fail5 hf, g_b3_s]
  split <;> exact e
theorem z_385 {p : Nat} (hp : p < 7) {f : Int32} (hf : f ≠ 0) (L ats st va si pl so pe : Int32) (tx C : Nat → Int32) : ∃ c1, f_X5_readSeeks_38 (nI p) L ats 5 st va si f pl tx so pe C = some (ats, 5, st, va, si, f, pl, c1) := by
  unfold f_X5_readSeeks_38
  rw [k_next5, g_b5_s, z_look5 hf, g_b4_s, k_next5, g_b5_s, z_look5 hf, g_b4_s]
  exact z_seekT (p := p) (s := 0) (o := 0) hp hf L ats st va si pl tx C (nI p)
theorem z_seek (hn : n ≤ 700) (hC : ∀ j, j < n → c j < 256 ∧ tC j = sb_b (c j)) (hM : ∀ j, j < n → c j < 256 ∧ tM j = nI (c j)) {a0 P S : Nat} {va si : Int32} (hP : P ≤ 7) (hS : S ≤ 5) (ha0 : a0 ≤ n) {C M : Nat → Int32} (hsk : ∀ p, p < P → (C (1 + p) = -1 ↔ M (351 + p) = -1)) :
    (∃ (a' p s o : Nat) (va' si' : Int32), p < P ∧ s < S ∧ o < P ∧ a' ≤ n ∧ t_Cv c n a' va' si' ∧ t_S c n a0 ≤ t_S c n a' ∧
        f_X5_readSeeks (nI n) (nI (t_E c n a0)) (nI (t_K c n a0)) (nI (t_S c n a0)) va si 0 (-1) tC (nI S) (nI P) C = some (nI (t_E c n a'), nI (t_K c n a'), nI (t_S c n a'), va', si', 0, -1, upd C (1 + p) (nI (7 * s + o))) ∧
        f_X12_readsSeeks 0 (-1) (nI n) (nI (t_E c n (t_E c n a0))) (nI (t_K c n (t_E c n a0))) (nI (t_S c n (t_E c n a0))) (nI (t_E c n (t_E c n a0) - t_S c n (t_E c n a0))) (t_mv c n (t_E c n a0)) (t_ms c n (t_E c n a0)) (t_mw c n (t_E c n a0)) (nI S) (nI P) tM M = some (0, -1, nI (t_E c n a'), nI (t_K c n a'), nI (t_S c n a'), nI (t_E c n a' - t_S c n a'), t_mv c n a', t_ms c n a', t_mw c n a', upd (upd M (351 + p) (nI s)) (358 + p) (nI o))) ∨
    (∃ (f s : Nat), 0 < f ∧ f < 100 ∧ (∃ (ats st va' si' : Int32) (l1 : Nat → Int32), f_X5_readSeeks (nI n) (nI (t_E c n a0)) (nI (t_K c n a0)) (nI (t_S c n a0)) va si 0 (-1) tC (nI S) (nI P) C = some (ats, 5, st, va', si', nI f, nI s, l1)) ∧
        ∃ r, f_X12_readsSeeks 0 (-1) (nI n) (nI (t_E c n (t_E c n a0))) (nI (t_K c n (t_E c n a0))) (nI (t_S c n (t_E c n a0))) (nI (t_E c n (t_E c n a0) - t_S c n (t_E c n a0))) (t_mv c n (t_E c n a0)) (t_ms c n (t_E c n a0)) (t_mw c n (t_E c n a0)) (nI S) (nI P) tM M = some (nI f, nI s, r)) := by
  obtain ⟨hE1, hE2, hE3⟩ := t_E_le c ha0
  have hKl0 := t_K_le c n a0
  have hk5 : nI (t_K c n a0) ≠ 5 := n_ne 5 5 rfl (by omega) (by decide) (by omega)
  obtain ⟨va1, si1, en, hv1⟩ := t_next hn hC hk5 (nI (t_S c n a0)) va si hE2
  obtain ⟨hE4, hE5, hE6⟩ := t_E_le c hE2
  obtain ⟨hE7, hE8, hE9⟩ := t_E_le c hE5
  obtain ⟨hE10, hE11, hE12⟩ := t_E_le c hE8
  obtain ⟨hS1, hS2⟩ := t_S_le c hE2
  obtain ⟨hS3, hS4⟩ := t_S_le c hE5
  obtain ⟨hS5, hS6⟩ := t_S_le c hE8
  obtain ⟨hS7, hS8⟩ := t_S_le c hE11
  unfold f_X5_readSeeks f_X12_readsSeeks
  rw [en, g_b5_s]
  rcases z_one hn (many := P) (by omega) hE2 hv1 with ⟨kp, p, hp, hmp, ec, em⟩ | ⟨f, hf1, hf2, ec, em⟩
  · have i1 : (351 : Int32) + nI p = nI (351 + p) := nI_add 351 p
    have i2 : (358 : Int32) + nI p = nI (358 + p) := nI_add 358 p
    rw [ec, em, g_b4_s, g_b3_s, if_neg n10, g_seeks (by omega), gs_b1_s, hmp, i1, gs_gd_t (gs_in_nI (i := 351 + p) (n := 372) (by omega) (by decide)), nI_clamp (n := 351 + p) (by omega)]
    by_cases hsp : C (1 + p) = -1
    · have hk51 : nI (t_K c n (t_E c n a0)) ≠ 5 := n_ne 5 5 rfl (by omega) (by decide) (by omega)
      obtain ⟨va2, si2, en2, hv2⟩ := t_next hn hC hk51 (nI (t_S c n (t_E c n a0))) va1 si1 hE5
      rw [if_pos hsp, if_pos rfl, if_pos ((hsk p hp).mp hsp)]
      unfold f_X5_readSeeks_38 f_X12_readsSeeks_36
      rw [en2, g_b5_s, x_good0, gs_b1_s, if_neg n10, t_goes hn hM _ _ _ _ _ _ hE5, g_b7_s]
      rcases z_one hn (many := S) (by omega) hE5 hv2 with ⟨ks, s, hs, hms, ec2, em2⟩ | ⟨f, hf1, hf2, ec2, em2⟩
      · have hk52 : nI (t_K c n (t_E c n (t_E c n a0))) ≠ 5 := n_ne 5 5 rfl (by omega) (by decide) (by omega)
        obtain ⟨va3, si3, en3, hv3⟩ := t_next hn hC hk52 (nI (t_S c n (t_E c n (t_E c n a0)))) va2 si2 hE8
        rw [ec2, em2, g_b4_s, g_b3_s, if_neg n10, en3, g_b5_s, hms, t_goes hn hM _ _ _ _ _ _ hE8, g_b7_s]
        rcases z_one hn (many := P) (by omega) hE8 hv3 with ⟨ko, o, ho, hmo, ec3, em3⟩ | ⟨f, hf1, hf2, ec3, em3⟩
        · have hk53 : nI (t_K c n (t_E c n (t_E c n (t_E c n a0)))) ≠ 5 := n_ne 5 5 rfl (by omega) (by decide) (by omega)
          obtain ⟨va4, si4, en4, hv4⟩ := t_next hn hC hk53 (nI (t_S c n (t_E c n (t_E c n (t_E c n a0))))) va3 si3 hE11
          rw [ec3, em3, g_b4_s, g_b3_s, if_neg n10, hmo]
          by_cases hop : o = p
          · right
            have g4 : f_X12_isGood 4 = some 0 := by decide
            rw [if_pos (by rw [hop]), if_pos (by rw [hop]), k_fail0, g_b3_s, z_895 (by omega) (k_next5 _ _ _ _ _ _), x_wrong0, g_b2_s]
            unfold f_X12_readsSeeks_94
            rw [g4, gs_b1_s, if_pos rfl]
            exact ⟨4, t_S c n (t_E c n (t_E c n (t_E c n a0))), by decide, by decide, ⟨_, _, _, _, _, rfl⟩, ⟨_, rfl⟩⟩
          · left
            have hne : ¬ nI o = nI p := fun z => hop ((nI_eq (by omega) (by omega)).mp z)
            rw [if_neg hne, if_neg hne, z_895 (by omega) en4]
            unfold f_X12_readsSeeks_94
            rw [x_good0, gs_b1_s, if_neg n10, i1, i2, gs_gd_t (gs_in_nI (i := 351 + p) (n := 372) (by omega) (by decide)), gs_gd_t (gs_in_nI (i := 358 + p) (n := 372) (by omega) (by decide)), t_goes hn hM _ _ _ _ _ _ hE11, g_b7_s, nI_clamp (n := 351 + p) (by omega), nI_clamp (n := 358 + p) (by omega)]
            exact ⟨_, p, s, o, va4, si4, hp, hs, ho, hE11, hv4, by omega, rfl, rfl⟩
        · right
          rw [ec3, em3, g_b4_s, g_b3_s, if_pos rfl]
          obtain ⟨c1, e1⟩ := z_seekT (p := p) (s := s) (o := 0) (by omega) (x_fne hf1 hf2) (nI n) (nI (t_E c n (t_E c n (t_E c n (t_E c n a0))))) (nI (t_S c n (t_E c n (t_E c n (t_E c n a0))))) va3 si3 (nI (t_S c n (t_E c n (t_E c n (t_E c n a0))))) tC C (nI p)
          exact ⟨f, _, hf1, hf2, ⟨_, _, _, _, c1, e1⟩, ⟨_, rfl⟩⟩
      · right
        rw [ec2, em2, g_b4_s, g_b3_s, if_pos rfl, k_next5, g_b5_s, z_look5 (x_fne hf1 hf2), g_b4_s]
        obtain ⟨c1, e1⟩ := z_seekT (p := p) (s := 0) (o := 0) (by omega) (x_fne hf1 hf2) (nI n) (nI (t_E c n (t_E c n (t_E c n a0)))) (nI (t_S c n (t_E c n (t_E c n a0)))) va2 si2 (nI (t_S c n (t_E c n (t_E c n a0)))) tC C (nI p)
        exact ⟨f, _, hf1, hf2, ⟨_, _, _, _, c1, e1⟩, ⟨_, rfl⟩⟩
    · right
      have g4 : f_X12_isGood 4 = some 0 := by decide
      obtain ⟨c1, e1⟩ := z_385 (p := p) (f := 4) (by omega) (by decide) (nI n) (nI (t_E c n (t_E c n a0))) (nI (t_S c n (t_E c n a0))) va1 si1 (nI (t_S c n (t_E c n a0))) (nI S) (nI P) tC C
      rw [if_neg hsp, if_neg n10, if_neg (fun z => hsp ((hsk p hp).mpr z)), k_fail0, g_b3_s, e1, x_wrong0, g_b2_s]
      unfold f_X12_readsSeeks_36
      rw [g4, gs_b1_s, if_pos rfl]
      exact ⟨4, t_S c n (t_E c n a0), by decide, by decide, ⟨_, _, _, _, _, rfl⟩, ⟨_, rfl⟩⟩
  · right
    rw [ec, em, g_b4_s, g_b3_s, if_pos rfl, show f_X7_seeks 0 C = _ from g_seeks (p := 0) (by decide) C, gs_b1_s]
    obtain ⟨c1, e1⟩ := z_385 (p := 0) (by decide) (x_fne hf1 hf2) (nI n) (nI (t_E c n (t_E c n a0))) (nI (t_S c n (t_E c n a0))) va1 si1 (nI (t_S c n (t_E c n a0))) (nI S) (nI P) tC C
    have e1' : f_X5_readSeeks_38 0 (nI n) (nI (t_E c n (t_E c n a0))) 5 (nI (t_S c n (t_E c n a0))) va1 si1 (nI f) (nI (t_S c n (t_E c n a0))) tC (nI S) (nI P) C = _ := e1
    refine ⟨f, t_S c n (t_E c n a0), hf1, hf2, ⟨nI (t_E c n (t_E c n a0)), nI (t_S c n (t_E c n a0)), va1, si1, c1, ?_⟩, ⟨_, rfl⟩⟩
    rw [k_fail5 (x_fne hf1 hf2), g_b3_s]
    by_cases z : C (1 + 0) = -1
    · rw [if_pos z, if_pos rfl]
      exact e1'
    · rw [if_neg z, if_neg n10]
      exact e1'
end HA
