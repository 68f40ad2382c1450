/-! ===== pure rows: every line ===== -/
theorem t_W_len {c : Nat → Nat} {n a i : Nat} (ha : a ≤ n) (hi : i < 18) (h : t_W c n a = t_ix i) : t_E c n a - t_S c n a = gs_sl i := by
  obtain ⟨x1, x2, x3, x4, x5⟩ := t_ix_tab i hi
  have hk := t_W_K (c := c) (n := n) (a := a) (by omega)
  unfold t_W at h
  split at h
  · cases hf : g_ff (fun k => t_wl k == t_wc c (t_S c n a) (t_E c n a - t_S c n a)) 18 0 with
    | none =>
      rw [hf] at h
      have : 18 = t_ix i := h
      omega
    | some k =>
      rw [hf] at h
      have hk2 : k = t_ix i := h
      have := (g_ff_some 18 0 hf).2.2
      rw [hk2] at this
      have hw : t_wl (t_ix i) = t_wc c (t_S c n a) (t_E c n a - t_S c n a) := by simpa using this
      unfold t_wl at hw
      rw [x2] at hw
      exact (t_wc_inj _ _ (fun j hj => by rw [Nat.zero_add]; exact (x5 j hj).1) (t_K1 ha hk) hw).1.symm
  · omega
section LL
variable {c : Nat → Nat} {n : Nat} {tC tM : Nat → Int32}
theorem z_line (hn : n ≤ 700) (hC : ∀ j, j < n → c j < 256 ∧ tC j = sb_b (c j)) (hM : ∀ j, j < n → c j < 256 ∧ tM j = nI (c j)) {a S P ce top : Nat} {len mem : Nat → Nat} {rF rL : Option (List Nat)} {va si fF fT lF lT oF fA lA fv lv wt dp : Int32} {L Fs ME W CC C TO ML MF MW M CM ws ts IT : Nat → Int32} (hI : z_I c n a S P ce top len mem rF rL va si fF fT lF lT fA lA L Fs ME W CC C TO ML MF MW M CM IT) :
    z_good c n a (f_X5_readLine (nI n) (nI (t_E c n a)) (nI (t_K c n a)) (nI (t_S c n a)) va si 0 (-1) tC (nI S) (nI P) (nI ce) fF fT lF lT L Fs ME W CC C TO oF) (f_X12_line 0 (-1) (nI n) (nI (t_E c n a)) (nI (t_K c n a)) (nI (t_S c n a)) (nI (t_E c n a - t_S c n a)) (t_mv c n a) (t_ms c n a) (t_mw c n a) (nI S) (nI P) fA lA (nI top) fv lv wt dp tM ML MF MW M CM ws ts IT) ∨ z_bad (f_X5_readLine (nI n) (nI (t_E c n a)) (nI (t_K c n a)) (nI (t_S c n a)) va si 0 (-1) tC (nI S) (nI P) (nI ce) fF fT lF lT L Fs ME W CC C TO oF) (f_X12_line 0 (-1) (nI n) (nI (t_E c n a)) (nI (t_K c n a)) (nI (t_S c n a)) (nI (t_E c n a - t_S c n a)) (t_mv c n a) (t_ms c n a) (t_mw c n a) (nI S) (nI P) fA lA (nI top) fv lv wt dp tM ML MF MW M CM ws ts IT) := by
  have hI' := id hI
  obtain ⟨⟨ha, hv, hce, htop⟩, hZ, hrF, hrL⟩ := hI'
  obtain ⟨hS5, hP7⟩ := hZ.1
  obtain ⟨hE1, hE2, hE3⟩ := t_E_le c ha
  obtain ⟨hS1, hS2⟩ := t_S_le c hE2
  have hKl := t_K_le c n a
  have hWl := t_W_le c n a
  have hk5 : nI (t_K c n a) ≠ 5 := n_ne 5 5 rfl (by omega) (by decide) (by omega)
  have hk : ∀ (v : Nat) (lit : Int32), lit = nI v → v < 18 → ((if t_W c n a = 18 then (-1 : Int32) else nI (t_W c n a)) = lit ↔ t_W c n a = v) := by
    intro v lit hl hv
    rw [hl]
    by_cases e : t_W c n a = 18
    · rw [if_pos e]
      exact ⟨fun z => absurd z (g_m1' (by omega)), fun z => by omega⟩
    · rw [if_neg e]
      exact nI_eq (by omega) (by omega)
  have w12 : f_X8_isWord 12 (nI (t_E c n a)) (nI (t_K c n a)) (nI (t_S c n a)) tC = some (if t_W c n a = 9 then 1 else 0) := t_isWord hn hC ha (by decide)
  have w13 : f_X8_isWord 13 (nI (t_E c n a)) (nI (t_K c n a)) (nI (t_S c n a)) tC = some (if t_W c n a = 10 then 1 else 0) := t_isWord hn hC ha (by decide)
  have w14 : f_X8_isWord 14 (nI (t_E c n a)) (nI (t_K c n a)) (nI (t_S c n a)) tC = some (if t_W c n a = 11 then 1 else 0) := t_isWord hn hC ha (by decide)
  have w15 : f_X8_isWord 15 (nI (t_E c n a)) (nI (t_K c n a)) (nI (t_S c n a)) tC = some (if t_W c n a = 12 then 1 else 0) := t_isWord hn hC ha (by decide)
  have w16 : f_X8_isWord 16 (nI (t_E c n a)) (nI (t_K c n a)) (nI (t_S c n a)) tC = some (if t_W c n a = 13 then 1 else 0) := t_isWord hn hC ha (by decide)
  have w17 : f_X8_isWord 17 (nI (t_E c n a)) (nI (t_K c n a)) (nI (t_S c n a)) tC = some (if t_W c n a = 14 then 1 else 0) := t_isWord hn hC ha (by decide)
  have badI : ∀ {f s : Nat} (hf1 : 0 < f) (hf2 : f < 100) {oc om} (hc : ∃ (ats st va si p a1 a2 a3 a4 a5 a6 a7 oF : Int32) (b1 b2 b3 b4 b5 b6 b7 : Nat → Int32), p = nI s ∧ oc = f_X5_readLine_122 (nI n) ats 5 st va si (nI f) p tC a1 a2 a3 a4 a5 a6 a7 b1 b2 b3 b4 b5 b6 b7 oF) (hm : ∃ (nx so pl lo va si : Int32) (wo : Int64) (a1 a2 a3 a4 a5 a6 a7 a8 a9 : Int32) (b1 b2 b3 b4 b5 b6 b7 b8 : Nat → Int32), om = f_X12_line_213 (nI f) (nI s) (nI n) nx so pl lo va si wo a1 a2 a3 a4 a5 a6 a7 a8 a9 tM b1 b2 b3 b4 b5 b6 b7 b8), z_bad oc om := by
    rintro f s hf1 hf2 oc om ⟨ats, st, va, si, p, a1, a2, a3, a4, a5, a6, a7, oF, b1, b2, b3, b4, b5, b6, b7, hp, hc⟩ ⟨nx, so, pl, lo, va', si', wo, d1, d2, d3, d4, d5, d6, d7, d8, d9, e1, e2, e3, e4, e5, e6, e7, e8, hm⟩
    subst hp
    obtain ⟨r1, h1⟩ := z_endC (tx := tC) hf1 hf2 (nI n) ats st va si (nI s) a1 a2 a3 a4 a5 a6 a7 oF b1 b2 b3 b4 b5 b6 b7
    obtain ⟨r2, h2⟩ := z_endM (tx := tM) hf1 hf2 (nI s) (nI n) nx so pl lo va' si' wo d1 d2 d3 d4 d5 d6 d7 d8 d9 e1 e2 e3 e4 e5 e6 e7 e8
    exact ⟨f, s, hf1, hf2, ⟨_, _, _, _, r1, by rw [hc, h1]⟩, ⟨r2, by rw [hm, h2]⟩⟩
  have BC : ∀ {f s : Nat} (ats st va si a1 a2 a3 a4 a5 a6 a7 oF : Int32) (b1 b2 b3 b4 b5 b6 b7 : Nat → Int32), ∃ (ats' st' va' si' p a1' a2' a3' a4' a5' a6' a7' oF' : Int32) (b1' b2' b3' b4' b5' b6' b7' : Nat → Int32), p = nI s ∧ f_X5_readLine_122 (nI n) ats 5 st va si (nI f) (nI s) tC a1 a2 a3 a4 a5 a6 a7 b1 b2 b3 b4 b5 b6 b7 oF = f_X5_readLine_122 (nI n) ats' 5 st' va' si' (nI f) p tC a1' a2' a3' a4' a5' a6' a7' b1' b2' b3' b4' b5' b6' b7' oF' := fun ats st va si a1 a2 a3 a4 a5 a6 a7 oF b1 b2 b3 b4 b5 b6 b7 => ⟨ats, st, va, si, _, a1, a2, a3, a4, a5, a6, a7, oF, b1, b2, b3, b4, b5, b6, b7, rfl, rfl⟩
  have BM : ∀ {f s : Nat} (nx so pl lo va si : Int32) (wo : Int64) (a1 a2 a3 a4 a5 a6 a7 a8 a9 : Int32) (b1 b2 b3 b4 b5 b6 b7 b8 : Nat → Int32), ∃ (nx' so' pl' lo' va' si' : Int32) (wo' : Int64) (a1' a2' a3' a4' a5' a6' a7' a8' a9' : Int32) (b1' b2' b3' b4' b5' b6' b7' b8' : Nat → Int32), f_X12_line_213 (nI f) (nI s) (nI n) nx so pl lo va si wo a1 a2 a3 a4 a5 a6 a7 a8 a9 tM b1 b2 b3 b4 b5 b6 b7 b8 = f_X12_line_213 (nI f) (nI s) (nI n) nx' so' pl' lo' va' si' wo' a1' a2' a3' a4' a5' a6' a7' a8' a9' tM b1' b2' b3' b4' b5' b6' b7' b8' := fun nx so pl lo va si wo a1 a2 a3 a4 a5 a6 a7 a8 a9 b1 b2 b3 b4 b5 b6 b7 b8 => ⟨nx, so, pl, lo, va, si, wo, a1, a2, a3, a4, a5, a6, a7, a8, a9, b1, b2, b3, b4, b5, b6, b7, b8, rfl⟩
  unfold f_X12_line
  rw [t_knw ha hn, gs_b1_s]
  unfold f_X5_readLine
  rw [w12, w13, w14, w15, w16, w17, gs_b1_s]
  by_cases e9 : t_W c n a = 9
  · -- a song
    rw [if_pos e9, if_neg n10, if_pos ((hk 9 9 rfl (by decide)).mpr e9)]
    unfold f_X12_line_25
    rcases Nat.lt_or_ge S 5 with hS | hS
    · rw [if_neg (n_ne 5 5 rfl (by omega) (by decide) (by omega)), z_beg0 hn hM ha, g_b10_s, if_neg n10]
      rcases z_song (va := va) (si := si) hn hC hM hS ha L Fs ML MF with ⟨cnt, va', si', h1, h8, hV, hb, hv', hSS, ec, em⟩ | ⟨f, s, hf1, hf2, ⟨ats, st, va', si', so, l1, l2, ec⟩, ⟨⟨m1, m2, m3, m4, m5, m6, m7, m8, m9, m10⟩, em⟩⟩
      · rw [ec, em, g_b10_s, g_b12_s]
        exact z_end hn hC hM (by omega) ⟨⟨hb, hv', by omega, by omega⟩, hZ.song hS h1 h8 (fun k hk => ⟨_, hV k hk, rfl⟩), hrF, hrL⟩
      · right
        rw [ec, em, g_b10_s, g_b12_s]
        exact badI hf1 hf2 (BC _ _ _ _ _ _ _ _ _ _ _ _ _ _ _ _ _ _ _) (BM _ _ _ _ _ _ _ _ _ _ _ _ _ _ _ _ _ _ _ _ _ _ _ _)
    · right
      have e5 : S = 5 := by omega
      subst e5
      unfold f_X5_readSong
      rw [if_pos (show nI 5 = 5 from rfl), z_beg2, g_b10_s, if_pos rfl, if_neg (show ¬ nI 5 < 5 from by decide), k_fail0, g_b3_s, g_b10_s]
      exact badI (f := 2) (s := t_S c n a) (by decide) (by decide) (BC _ _ _ _ _ _ _ _ _ _ _ _ _ _ _ _ _ _ _) (BM _ _ _ _ _ _ _ _ _ _ _ _ _ _ _ _ _ _ _ _ _ _ _ _)
  rw [if_neg e9, if_pos (show (0 : Int32) = 0 from rfl), if_neg (fun z => e9 ((hk 9 9 rfl (by decide)).mp z)), gs_b1_s]
  by_cases e10 : t_W c n a = 10
  · -- a person
    rw [if_pos e10, if_neg n10, if_pos ((hk 10 10 rfl (by decide)).mpr e10)]
    unfold f_X12_line_60
    rcases Nat.lt_or_ge P 7 with hP | hP
    · rw [if_neg (n_ne 7 7 rfl (by omega) (by decide) (by omega)), z_beg0 hn hM ha, g_b10_s, if_neg n10]
      rcases z_person (va := va) (si := si) hn hC hM hP ha ME W MW M with ⟨a', x, y, va', si', hx, hy, ha', hv', hSS, ec, em⟩ | ⟨f, s, hf1, hf2, ⟨ats, st, va', si', so, l1, l2, ec⟩, ⟨⟨m1, m2, m3, m4, m5, m6, m7, m8, m9, m10⟩, em⟩⟩
      · rw [ec, em, g_b10_s, g_b12_s]
        exact z_end hn hC hM hSS ⟨⟨ha', hv', by omega, by omega⟩, hZ.person hP hx, hrF, hrL⟩
      · right
        rw [ec, em, g_b10_s, g_b12_s]
        exact badI hf1 hf2 (BC _ _ _ _ _ _ _ _ _ _ _ _ _ _ _ _ _ _ _) (BM _ _ _ _ _ _ _ _ _ _ _ _ _ _ _ _ _ _ _ _ _ _ _ _)
    · right
      have e7 : P = 7 := by omega
      subst e7
      unfold f_X5_readPerson
      rw [if_pos (show nI 7 = 7 from rfl), z_beg2, g_b10_s, if_pos rfl, if_neg (show ¬ nI 7 < 7 from by decide), k_fail0, g_b3_s, g_b10_s]
      exact badI (f := 2) (s := t_S c n a) (by decide) (by decide) (BC _ _ _ _ _ _ _ _ _ _ _ _ _ _ _ _ _ _ _) (BM _ _ _ _ _ _ _ _ _ _ _ _ _ _ _ _ _ _ _ _ _ _ _ _)
  rw [if_neg e10, if_pos (show (0 : Int32) = 0 from rfl), if_neg (fun z => e10 ((hk 10 10 rfl (by decide)).mp z)), gs_b1_s]
  by_cases e11 : t_W c n a = 11
  · -- has
    rw [if_pos e11, if_neg n10, if_pos ((hk 11 11 rfl (by decide)).mpr e11), z_beg0 hn hM ha, g_b10_s, if_neg n10]
    rcases z_has (va := va) (si := si) (len := len) (Fs := Fs) (C := C) (TO := TO) (ML := ML) (MF := MF) (M := M) (IT := IT) hn hC hM hP7 hS5 ha (fun s hs => ⟨(hZ.2.1 s hs).2.1, (hZ.2.1 s hs).2.2.2.1⟩) hZ.2.2.2.2.2.2.1 (fun p hp s hs => (hZ.2.2.2.2.1 p hp s hs).2.2.2.2.1) with ⟨a', p, s, gv, va', si', hp, hs, hg, hit, ha', hv', hSS, ec, em⟩ | ⟨f, s, hf1, hf2, ⟨ats, st, va', si', l1, l2, ec⟩, ⟨⟨m1, m2, m3, m4, m5, m6, m7, m8, m9⟩, em⟩⟩
    · rw [ec, em, g_b9_s, g_b11_s]
      exact z_end hn hC hM hSS ⟨⟨ha', hv', by omega, by omega⟩, hZ.has hp hs hit, hrF, hrL⟩
    · right
      rw [ec, em, g_b9_s, g_b11_s]
      exact badI hf1 hf2 (BC _ _ _ _ _ _ _ _ _ _ _ _ _ _ _ _ _ _ _) (BM _ _ _ _ _ _ _ _ _ _ _ _ _ _ _ _ _ _ _ _ _ _ _ _)
  rw [if_neg e11, if_pos (show (0 : Int32) = 0 from rfl), if_neg (fun z => e11 ((hk 11 11 rfl (by decide)).mp z)), gs_b1_s]
  by_cases e12 : t_W c n a = 12
  · -- seeks
    rw [if_pos e12, if_neg n10, if_pos ((hk 12 12 rfl (by decide)).mpr e12), z_beg0 hn hM ha, g_b10_s, if_neg n10]
    rcases z_seek (va := va) (si := si) (C := C) (M := M) hn hC hM hP7 hS5 ha (fun p hp => hZ.sk hp) with ⟨a', p, s, o, va', si', hp, hs, ho, ha', hv', hSS, ec, em⟩ | ⟨f, s, hf1, hf2, ⟨ats, st, va', si', l1, ec⟩, ⟨⟨m1, m2, m3, m4, m5, m6, m7, m8⟩, em⟩⟩
    · rw [ec, em, g_b8_s, g_b10_s]
      exact z_end hn hC hM hSS ⟨⟨ha', hv', by omega, by omega⟩, hZ.seek hp hs ho, hrF, hrL⟩
    · right
      rw [ec, em, g_b8_s, g_b10_s]
      exact badI hf1 hf2 (BC _ _ _ _ _ _ _ _ _ _ _ _ _ _ _ _ _ _ _) (BM _ _ _ _ _ _ _ _ _ _ _ _ _ _ _ _ _ _ _ _ _ _ _ _)
  rw [if_neg e12, if_pos (show (0 : Int32) = 0 from rfl), if_neg (fun z => e12 ((hk 12 12 rfl (by decide)).mp z)), gs_b1_s]
  obtain ⟨va1, si1, en, hv1⟩ := t_next hn hC hk5 (nI (t_S c n a)) va si hE2
  by_cases e13 : t_W c n a = 13
  · have hlen := t_W_len (c := c) (n := n) (i := 16) ha (by decide) e13
    have hlong : t_S c n a + 4 ≤ t_E c n a := by
      have : gs_sl 16 = 7 := rfl
      omega
    rw [if_pos e13, if_neg n10, if_pos ((hk 13 13 rfl (by decide)).mpr e13)]
    unfold f_X5_readForgets f_X12_line_139
    cases hr : rF with
    | none =>
      rw [hr] at hrF
      rw [if_pos hrF.1, if_pos hrF.2, z_beg0 hn hM ha, g_b10_s, if_neg n10, en, g_b5_s]
      have H := z_rule (va := va) (si := si) (fv := fv) (lv := lv) (wt := wt) (dp := dp) (o := 1) hn hC hM (by decide) ha (by omega) hlong hce htop CC CM ws ts
      rw [en, g_b5_s] at H
      rcases H with ⟨a', d, va', si', CC', CM', ws', ts', ec, em, hv', ha', f1, f2, hce', htop', hSS, hrl⟩ | ⟨f, s, hf1, hf2, ⟨ats, st, va', si', ce2, code2, hce2, ec⟩, ⟨⟨m1, m2, m3, m4, m5, m6, m7, m8, m9, m10, m11, m12, m13, m14, m15⟩, em⟩⟩
      · have ec' : f_X2_readExpr_r 0 1 (nI n) (nI (t_E c n (t_E c n a))) (nI (t_K c n (t_E c n a))) (nI (t_S c n (t_E c n a))) va1 si1 0 (-1) tC (nI ce) CC = _ := ec
        have em' : f_X12_expression 0 6 0 (-1) (nI n) (nI (t_E c n (t_E c n a))) (nI (t_K c n (t_E c n a))) (nI (t_S c n (t_E c n a))) (nI (t_E c n (t_E c n a) - t_S c n (t_E c n a))) (t_mv c n (t_E c n a)) (t_ms c n (t_E c n a)) (t_mw c n (t_E c n a)) (nI top) fv lv wt dp tM CM ws ts = _ := em
        rw [ec', em', g_b9_s, g_b12_s, g_b17_s]
        exact z_end hn hC hM hSS ⟨⟨ha', hv', hce', htop'⟩, hZ, hrl, hrL.mono (by omega) (by omega) f1 f2⟩
      · right
        have ec' : f_X2_readExpr_r 0 1 (nI n) (nI (t_E c n (t_E c n a))) (nI (t_K c n (t_E c n a))) (nI (t_S c n (t_E c n a))) va1 si1 0 (-1) tC (nI ce) CC = _ := ec
        have em' : f_X12_expression 0 6 0 (-1) (nI n) (nI (t_E c n (t_E c n a))) (nI (t_K c n (t_E c n a))) (nI (t_S c n (t_E c n a))) (nI (t_E c n (t_E c n a) - t_S c n (t_E c n a))) (t_mv c n (t_E c n a)) (t_ms c n (t_E c n a)) (t_mw c n (t_E c n a)) (nI top) fv lv wt dp tM CM ws ts = _ := em
        rw [ec', em', g_b9_s, g_b12_s, g_b17_s]
        exact badI hf1 hf2 (BC _ _ _ _ _ _ _ _ _ _ _ _ _ _ _ _ _ _ _) (BM _ _ _ _ _ _ _ _ _ _ _ _ _ _ _ _ _ _ _ _ _ _ _ _)
    | some d0 =>
      right
      rw [hr] at hrF
      obtain ⟨i, k, q1, q2, q3, b1, b2, b3, b4, -⟩ := hrF
      rw [if_neg (show ¬ fF = -1 from by rw [q1]; exact g_m1 (by omega)), if_neg (show ¬ fA = -1 from by rw [q3]; exact g_m1 (by omega)), z_beg5, g_b10_s, if_pos rfl, k_fail0, g_b3_s, g_b12_s]
      exact badI (f := 5) (s := t_S c n a) (by decide) (by decide) (BC _ _ _ _ _ _ _ _ _ _ _ _ _ _ _ _ _ _ _) (BM _ _ _ _ _ _ _ _ _ _ _ _ _ _ _ _ _ _ _ _ _ _ _ _)
  rw [if_neg e13, if_pos (show (0 : Int32) = 0 from rfl), if_neg (fun z => e13 ((hk 13 13 rfl (by decide)).mp z)), gs_b1_s]
  by_cases e14 : t_W c n a = 14
  · have hlen := t_W_len (c := c) (n := n) (i := 17) ha (by decide) e14
    have hlong : t_S c n a + 4 ≤ t_E c n a := by
      have : gs_sl 17 = 5 := rfl
      omega
    rw [if_pos e14, if_neg n10, if_pos ((hk 14 14 rfl (by decide)).mpr e14)]
    unfold f_X5_readFills f_X12_line_184
    cases hr : rL with
    | none =>
      rw [hr] at hrL
      rw [if_pos hrL.1, if_pos hrL.2, z_beg0 hn hM ha, g_b10_s, if_neg n10, en, g_b5_s]
      have H := z_rule (va := va) (si := si) (fv := fv) (lv := lv) (wt := wt) (dp := dp) (o := 0) hn hC hM (by decide) ha (by omega) hlong hce htop CC CM ws ts
      rw [en, g_b5_s] at H
      rcases H with ⟨a', d, va', si', CC', CM', ws', ts', ec, em, hv', ha', f1, f2, hce', htop', hSS, hrl⟩ | ⟨f, s, hf1, hf2, ⟨ats, st, va', si', ce2, code2, hce2, ec⟩, ⟨⟨m1, m2, m3, m4, m5, m6, m7, m8, m9, m10, m11, m12, m13, m14, m15⟩, em⟩⟩
      · have ec' : f_X2_readExpr_r 0 0 (nI n) (nI (t_E c n (t_E c n a))) (nI (t_K c n (t_E c n a))) (nI (t_S c n (t_E c n a))) va1 si1 0 (-1) tC (nI ce) CC = _ := ec
        have em' : f_X12_expression 4 8 0 (-1) (nI n) (nI (t_E c n (t_E c n a))) (nI (t_K c n (t_E c n a))) (nI (t_S c n (t_E c n a))) (nI (t_E c n (t_E c n a) - t_S c n (t_E c n a))) (t_mv c n (t_E c n a)) (t_ms c n (t_E c n a)) (t_mw c n (t_E c n a)) (nI top) fv lv wt dp tM CM ws ts = _ := em
        rw [ec', em', g_b9_s, g_b12_s, g_b17_s]
        exact z_end hn hC hM hSS ⟨⟨ha', hv', hce', htop'⟩, hZ, hrF.mono (by omega) (by omega) f1 f2, hrl⟩
      · right
        have ec' : f_X2_readExpr_r 0 0 (nI n) (nI (t_E c n (t_E c n a))) (nI (t_K c n (t_E c n a))) (nI (t_S c n (t_E c n a))) va1 si1 0 (-1) tC (nI ce) CC = _ := ec
        have em' : f_X12_expression 4 8 0 (-1) (nI n) (nI (t_E c n (t_E c n a))) (nI (t_K c n (t_E c n a))) (nI (t_S c n (t_E c n a))) (nI (t_E c n (t_E c n a) - t_S c n (t_E c n a))) (t_mv c n (t_E c n a)) (t_ms c n (t_E c n a)) (t_mw c n (t_E c n a)) (nI top) fv lv wt dp tM CM ws ts = _ := em
        rw [ec', em', g_b9_s, g_b12_s, g_b17_s]
        exact badI hf1 hf2 (BC _ _ _ _ _ _ _ _ _ _ _ _ _ _ _ _ _ _ _) (BM _ _ _ _ _ _ _ _ _ _ _ _ _ _ _ _ _ _ _ _ _ _ _ _)
    | some d0 =>
      right
      rw [hr] at hrL
      obtain ⟨i, k, q1, q2, q3, b1, b2, b3, b4, -⟩ := hrL
      rw [if_neg (show ¬ lF = -1 from by rw [q1]; exact g_m1 (by omega)), if_neg (show ¬ lA = -1 from by rw [q3]; exact g_m1 (by omega)), z_beg5, g_b10_s, if_pos rfl, k_fail0, g_b3_s, g_b12_s]
      exact badI (f := 5) (s := t_S c n a) (by decide) (by decide) (BC _ _ _ _ _ _ _ _ _ _ _ _ _ _ _ _ _ _ _) (BM _ _ _ _ _ _ _ _ _ _ _ _ _ _ _ _ _ _ _ _ _ _ _ _)
  right
  rw [if_neg e14, if_pos (show (0 : Int32) = 0 from rfl), if_neg (fun z => e14 ((hk 14 14 rfl (by decide)).mp z)), k_fail0, g_b3_s, x_wrong0, g_b2_s]
  exact badI (f := 1) (s := t_S c n a) (by decide) (by decide) (BC _ _ _ _ _ _ _ _ _ _ _ _ _ _ _ _ _ _ _) (BM _ _ _ _ _ _ _ _ _ _ _ _ _ _ _ _ _ _ _ _ _ _ _ _)
end LL
