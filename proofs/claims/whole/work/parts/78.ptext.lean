/-! ===== pure rows: the whole text ===== -/
theorem g_b22_s {α1 α2 α3 α4 α5 α6 α7 α8 α9 α10 α11 α12 α13 α14 α15 α16 α17 α18 α19 α20 α21 α22 β : Type} {a1 : α1} {a2 : α2} {a3 : α3} {a4 : α4} {a5 : α5} {a6 : α6} {a7 : α7} {a8 : α8} {a9 : α9} {a10 : α10} {a11 : α11} {a12 : α12} {a13 : α13} {a14 : α14} {a15 : α15} {a16 : α16} {a17 : α17} {a18 : α18} {a19 : α19} {a20 : α20} {a21 : α21} {a22 : α22} {k : α1 → α2 → α3 → α4 → α5 → α6 → α7 → α8 → α9 → α10 → α11 → α12 → α13 → α14 → α15 → α16 → α17 → α18 → α19 → α20 → α21 → α22 → Option β} : gs_b22 (some (a1, a2, a3, a4, a5, a6, a7, a8, a9, a10, a11, a12, a13, a14, a15, a16, a17, a18, a19, a20, a21, a22)) k = k a1 a2 a3 a4 a5 a6 a7 a8 a9 a10 a11 a12 a13 a14 a15 a16 a17 a18 a19 a20 a21 a22 := rfl
theorem g_b24_s {α1 α2 α3 α4 α5 α6 α7 α8 α9 α10 α11 α12 α13 α14 α15 α16 α17 α18 α19 α20 α21 α22 α23 α24 β : Type} {a1 : α1} {a2 : α2} {a3 : α3} {a4 : α4} {a5 : α5} {a6 : α6} {a7 : α7} {a8 : α8} {a9 : α9} {a10 : α10} {a11 : α11} {a12 : α12} {a13 : α13} {a14 : α14} {a15 : α15} {a16 : α16} {a17 : α17} {a18 : α18} {a19 : α19} {a20 : α20} {a21 : α21} {a22 : α22} {a23 : α23} {a24 : α24} {k : α1 → α2 → α3 → α4 → α5 → α6 → α7 → α8 → α9 → α10 → α11 → α12 → α13 → α14 → α15 → α16 → α17 → α18 → α19 → α20 → α21 → α22 → α23 → α24 → Option β} : gs_b24 (some (a1, a2, a3, a4, a5, a6, a7, a8, a9, a10, a11, a12, a13, a14, a15, a16, a17, a18, a19, a20, a21, a22, a23, a24)) k = k a1 a2 a3 a4 a5 a6 a7 a8 a9 a10 a11 a12 a13 a14 a15 a16 a17 a18 a19 a20 a21 a22 a23 a24 := rfl
theorem g_b26_s {α1 α2 α3 α4 α5 α6 α7 α8 α9 α10 α11 α12 α13 α14 α15 α16 α17 α18 α19 α20 α21 α22 α23 α24 α25 α26 β : Type} {a1 : α1} {a2 : α2} {a3 : α3} {a4 : α4} {a5 : α5} {a6 : α6} {a7 : α7} {a8 : α8} {a9 : α9} {a10 : α10} {a11 : α11} {a12 : α12} {a13 : α13} {a14 : α14} {a15 : α15} {a16 : α16} {a17 : α17} {a18 : α18} {a19 : α19} {a20 : α20} {a21 : α21} {a22 : α22} {a23 : α23} {a24 : α24} {a25 : α25} {a26 : α26} {k : α1 → α2 → α3 → α4 → α5 → α6 → α7 → α8 → α9 → α10 → α11 → α12 → α13 → α14 → α15 → α16 → α17 → α18 → α19 → α20 → α21 → α22 → α23 → α24 → α25 → α26 → Option β} : gs_b26 (some (a1, a2, a3, a4, a5, a6, a7, a8, a9, a10, a11, a12, a13, a14, a15, a16, a17, a18, a19, a20, a21, a22, a23, a24, a25, a26)) k = k a1 a2 a3 a4 a5 a6 a7 a8 a9 a10 a11 a12 a13 a14 a15 a16 a17 a18 a19 a20 a21 a22 a23 a24 a25 a26 := rfl
def z_cT (n : Nat) (tC : Nat → Int32) (k : Nat) := gs_it (fun _ _ _ _ _ _ _ _ _ _ _ _ _ _ _ _ _ _ _ _ _ _ _ => none) (f_X5_readText_32 (nI n) tC) k
theorem z_cT_s (n : Nat) (tC : Nat → Int32) (k : Nat) : z_cT n tC (k + 1) = f_X5_readText_32 (nI n) tC (z_cT n tC k) := rfl
section TT
variable {c : Nat → Nat} {n : Nat} {tC tM : Nat → Int32}
theorem z_stopC (k j : Nat) (ats st va si f p a1 a2 a3 a4 a5 a6 a7 : Int32) (b1 b2 b3 b4 b5 b6 b7 : Nat → Int32) (oF : Int32) : z_cT n tC (k + 1) (nI j) ats 5 st va si f p a1 a2 a3 a4 a5 a6 a7 b1 b2 b3 b4 b5 b6 b7 oF = some (f, nI n, ats, 5, st, va, si, f, p, a1, a2, a3, a4, a5, a6, a7, b1, b2, b3, b4, b5, b6, b7, oF) := by
  rw [z_cT_s]
  unfold f_X5_readText_32
  split
  · rfl
  · rw [show f_X8_goesOn 5 = some 0 from rfl, gs_b1_s, if_pos rfl]
theorem z_text (hn : n ≤ 700) (hC : ∀ j, j < n → c j < 256 ∧ tC j = sb_b (c j)) (hM : ∀ j, j < n → c j < 256 ∧ tM j = nI (c j)) (th so pe fo fi ta ac hm hi : Int32) (SL FN WI CO rf rw0 : Nat → Int32) : ∀ (k k2 a j S P ce top : Nat) (len mem : Nat → Nat) (rF rL : Option (List Nat)) (va si fF fT lF lT oF fA lA fv lv wt dp : Int32) (L Fs ME W CC C TO ML MF MW M CM ws ts IT : Nat → Int32),
    n - t_S c n a + 2 ≤ k → n - t_S c n a + 2 ≤ k2 → j ≤ t_S c n a → z_I c n a S P ce top len mem rF rL va si fF fT lF lT fA lA L Fs ME W CC C TO ML MF MW M CM IT →
    (∃ (a' S' P' ce' top' : Nat) (len' mem' : Nat → Nat) (rF' rL' : Option (List Nat)) (va' si' fF' fT' lF' lT' oF' fA' lA' fv' lv' wt' dp' : Int32) (L' Fs' ME' W' CC' C' TO' ML' MF' MW' M' CM' ws' ts' IT' : Nat → Int32), (z_cT n tC k (nI j) (nI (t_E c n a)) (nI (t_K c n a)) (nI (t_S c n a)) va si 0 (-1) (nI S) (nI P) (nI ce) fF fT lF lT L Fs ME W CC C TO oF) = some (0, nI n, nI (t_E c n a'), nI (t_K c n a'), nI (t_S c n a'), va', si', 0, -1, nI S', nI P', nI ce', fF', fT', lF', lT', L', Fs', ME', W', CC', C', TO', oF') ∧ (∀ K, gs_it (fun _ _ _ _ _ _ _ _ _ _ _ _ _ _ _ _ _ _ _ _ _ _ _ _ _ _ => none) (f_X12_marsh_158 th so pe fo fi ta (nI n) ac hm hi SL FN WI CO tM rf rw0 K) k2 0 (-1) (nI (t_E c n a)) (nI (t_K c n a)) (nI (t_S c n a)) (nI (t_E c n a - t_S c n a)) (t_mv c n a) (t_ms c n a) (t_mw c n a) (nI S) (nI P) fA lA (nI top) fv lv wt dp ML MF MW M CM ws ts IT = K 0 (-1) (nI (t_E c n a')) (nI (t_K c n a')) (nI (t_S c n a')) (nI (t_E c n a' - t_S c n a')) (t_mv c n a') (t_ms c n a') (t_mw c n a') (nI S') (nI P') fA' lA' (nI top') fv' lv' wt' dp' ML' MF' MW' M' CM' ws' ts' IT') ∧ z_I c n a' S' P' ce' top' len' mem' rF' rL' va' si' fF' fT' lF' lT' fA' lA' L' Fs' ME' W' CC' C' TO' ML' MF' MW' M' CM' IT') ∨
    (∃ f s : Nat, 0 < f ∧ f < 100 ∧ (∃ ats st v1 v2 r, (z_cT n tC k (nI j) (nI (t_E c n a)) (nI (t_K c n a)) (nI (t_S c n a)) va si 0 (-1) (nI S) (nI P) (nI ce) fF fT lF lT L Fs ME W CC C TO oF) = some (nI f, nI n, ats, 5, st, v1, v2, nI f, nI s, r)) ∧ ∃ x1 x2 x3 x4 x5 x6 x7 x8 x9 x10 x11 x12 x13 x14 x15 x16 x17 x18 x19 x20 x21 x22 x23 x24, ∀ K, gs_it (fun _ _ _ _ _ _ _ _ _ _ _ _ _ _ _ _ _ _ _ _ _ _ _ _ _ _ => none) (f_X12_marsh_158 th so pe fo fi ta (nI n) ac hm hi SL FN WI CO tM rf rw0 K) k2 0 (-1) (nI (t_E c n a)) (nI (t_K c n a)) (nI (t_S c n a)) (nI (t_E c n a - t_S c n a)) (t_mv c n a) (t_ms c n a) (t_mw c n a) (nI S) (nI P) fA lA (nI top) fv lv wt dp ML MF MW M CM ws ts IT = K (nI f) (nI s) x1 x2 x3 x4 x5 x6 x7 x8 x9 x10 x11 x12 x13 x14 x15 x16 x17 x18 x19 x20 x21 x22 x23 x24) := by
  intro k
  induction k with
  | zero => intro k2 a j S P ce top len mem rF rL va si fF fT lF lT oF fA lA fv lv wt dp L Fs ME W CC C TO ML MF MW M CM ws ts IT h; omega
  | succ k ih =>
    intro k2 a j S P ce top len mem rF rL va si fF fT lF lT oF fA lA fv lv wt dp L Fs ME W CC C TO ML MF MW M CM ws ts IT hk hk2 hj hI
    obtain ⟨k2, rfl⟩ : ∃ z, k2 = z + 1 := ⟨k2 - 1, by omega⟩
    obtain ⟨⟨ha, hv, hce, htop⟩, -⟩ := id hI
    obtain ⟨hE1, hE2, hE3⟩ := t_E_le c ha
    obtain ⟨hS1, hS2⟩ := t_S_le c ha
    have hKl := t_K_le c n a
    by_cases e0 : t_K c n a = 0
    · left
      have hk0 : nI (t_K c n a) = 0 := by rw [e0]; rfl
      refine ⟨a, S, P, ce, top, len, mem, rF, rL, va, si, fF, fT, lF, lT, oF, fA, lA, fv, lv, wt, dp, L, Fs, ME, W, CC, C, TO, ML, MF, MW, M, CM, ws, ts, IT, ?_, fun K => ?_, hI⟩
      · rw [z_cT_s]
        unfold f_X5_readText_32
        split
        · rfl
        · have : f_X8_goesOn (nI (t_K c n a)) = some 0 := by rw [hk0]; rfl
          rw [this, gs_b1_s, if_pos rfl]
      · show f_X12_marsh_158 th so pe fo fi ta (nI n) ac hm hi SL FN WI CO tM rf rw0 K (gs_it _ _ k2) 0 (-1) (nI (t_E c n a)) (nI (t_K c n a)) (nI (t_S c n a)) (nI (t_E c n a - t_S c n a)) (t_mv c n a) (t_ms c n a) (t_mw c n a) (nI S) (nI P) fA lA (nI top) fv lv wt dp ML MF MW M CM ws ts IT = _
        generalize gs_it (fun _ _ _ _ _ _ _ _ _ _ _ _ _ _ _ _ _ _ _ _ _ _ _ _ _ _ => none) (f_X12_marsh_158 th so pe fo fi ta (nI n) ac hm hi SL FN WI CO tM rf rw0 K) k2 = G
        unfold f_X12_marsh_158
        rw [x_good0, gs_b1_s, if_neg n10, if_pos hk0]
    · have hSn : t_S c n a < n := by
        rcases Nat.lt_or_ge (t_S c n a) n with z | z
        · exact z
        · exact absurd (if_pos z) e0
      have hk0 : nI (t_K c n a) ≠ 0 := n_ne 0 0 rfl (by omega) (by decide) e0
      have hk5 : nI (t_K c n a) ≠ 5 := n_ne 5 5 rfl (by omega) (by decide) (by omega)
      have hg : f_X8_goesOn (nI (t_K c n a)) = some 1 := by
        unfold f_X8_goesOn
        rw [if_neg hk0, if_neg hk5]
      have hcl : ∀ (va si fF fT lF lT oF : Int32) (L Fs ME W CC C TO : Nat → Int32), z_cT n tC (k + 1) (nI j) (nI (t_E c n a)) (nI (t_K c n a)) (nI (t_S c n a)) va si 0 (-1) (nI S) (nI P) (nI ce) fF fT lF lT L Fs ME W CC C TO oF = gs_b22 (f_X5_readLine (nI n) (nI (t_E c n a)) (nI (t_K c n a)) (nI (t_S c n a)) va si 0 (-1) tC (nI S) (nI P) (nI ce) fF fT lF lT L Fs ME W CC C TO oF) (z_cT n tC k (nI (j + 1))) := by
        intro va si fF fT lF lT oF L Fs ME W CC C TO
        rw [z_cT_s]
        unfold f_X5_readText_32
        rw [if_neg (show ¬ (700 : Int32) ≤ nI j from nI_ge (b := 700) (by omega) (by omega)), hg, gs_b1_s, if_neg n10, nI_1]
      have hml : ∀ K, gs_it (fun _ _ _ _ _ _ _ _ _ _ _ _ _ _ _ _ _ _ _ _ _ _ _ _ _ _ => none) (f_X12_marsh_158 th so pe fo fi ta (nI n) ac hm hi SL FN WI CO tM rf rw0 K) (k2 + 1) 0 (-1) (nI (t_E c n a)) (nI (t_K c n a)) (nI (t_S c n a)) (nI (t_E c n a - t_S c n a)) (t_mv c n a) (t_ms c n a) (t_mw c n a) (nI S) (nI P) fA lA (nI top) fv lv wt dp ML MF MW M CM ws ts IT = gs_b26 (f_X12_line 0 (-1) (nI n) (nI (t_E c n a)) (nI (t_K c n a)) (nI (t_S c n a)) (nI (t_E c n a - t_S c n a)) (t_mv c n a) (t_ms c n a) (t_mw c n a) (nI S) (nI P) fA lA (nI top) fv lv wt dp tM ML MF MW M CM ws ts IT) (gs_it (fun _ _ _ _ _ _ _ _ _ _ _ _ _ _ _ _ _ _ _ _ _ _ _ _ _ _ => none) (f_X12_marsh_158 th so pe fo fi ta (nI n) ac hm hi SL FN WI CO tM rf rw0 K) k2) := by
        intro K
        show f_X12_marsh_158 th so pe fo fi ta (nI n) ac hm hi SL FN WI CO tM rf rw0 K (gs_it _ _ k2) 0 (-1) (nI (t_E c n a)) (nI (t_K c n a)) (nI (t_S c n a)) (nI (t_E c n a - t_S c n a)) (t_mv c n a) (t_ms c n a) (t_mw c n a) (nI S) (nI P) fA lA (nI top) fv lv wt dp ML MF MW M CM ws ts IT = _
        generalize gs_it (fun _ _ _ _ _ _ _ _ _ _ _ _ _ _ _ _ _ _ _ _ _ _ _ _ _ _ => none) (f_X12_marsh_158 th so pe fo fi ta (nI n) ac hm hi SL FN WI CO tM rf rw0 K) k2 = G
        unfold f_X12_marsh_158
        rw [x_good0, gs_b1_s, if_neg n10, if_neg hk0]
      rw [hcl]
      rcases z_line hn hC hM (oF := oF) (fv := fv) (lv := lv) (wt := wt) (dp := dp) (ws := ws) (ts := ts) hI with H | H
      · obtain ⟨a', S', P', ce', top', len', mem', rF', rL', va', si', fF', fT', lF', lT', oF', fA', lA', fv', lv', wt', dp', L', Fs', ME', W', CC', C', TO', ML', MF', MW', M', CM', ws', ts', IT', ec, em, hlt, hI'⟩ := H
        have hS' := (t_S_le c hI'.1.1).2
        have R := ih k2 a' (j + 1) S' P' ce' top' len' mem' rF' rL' va' si' fF' fT' lF' lT' oF' fA' lA' fv' lv' wt' dp' L' Fs' ME' W' CC' C' TO' ML' MF' MW' M' CM' ws' ts' IT' (by omega) (by omega) (by omega) hI'
        rw [ec, g_b22_s]
        have hml2 : ∀ K, gs_it (fun _ _ _ _ _ _ _ _ _ _ _ _ _ _ _ _ _ _ _ _ _ _ _ _ _ _ => none) (f_X12_marsh_158 th so pe fo fi ta (nI n) ac hm hi SL FN WI CO tM rf rw0 K) (k2 + 1) 0 (-1) (nI (t_E c n a)) (nI (t_K c n a)) (nI (t_S c n a)) (nI (t_E c n a - t_S c n a)) (t_mv c n a) (t_ms c n a) (t_mw c n a) (nI S) (nI P) fA lA (nI top) fv lv wt dp ML MF MW M CM ws ts IT = _ := fun K => by
          rw [hml, em, g_b26_s]
        simp only [hml2]
        exact R
      · right
        obtain ⟨f, s, hf1, hf2, ⟨ats, st, va', si', r, ec⟩, ⟨r2, em⟩⟩ := H
        obtain ⟨a1, a2, a3, a4, a5, a6, a7, b1, b2, b3, b4, b5, b6, b7, oF'⟩ := r
        obtain ⟨x1, x2, x3, x4, x5, x6, x7, x8, x9, x10, x11, x12, x13, x14, x15, x16, x17, x18, x19, x20, x21, x22, x23, x24⟩ := r2
        obtain ⟨k, rfl⟩ : ∃ z, k = z + 1 := ⟨k - 1, by omega⟩
        obtain ⟨k2, rfl⟩ : ∃ z, k2 = z + 1 := ⟨k2 - 1, by omega⟩
        refine ⟨f, s, hf1, hf2, ⟨ats, st, va', si', (a1, a2, a3, a4, a5, a6, a7, b1, b2, b3, b4, b5, b6, b7, oF'), ?_⟩, x1, x2, x3, x4, x5, x6, x7, x8, x9, x10, x11, x12, x13, x14, x15, x16, x17, x18, x19, x20, x21, x22, x23, x24, fun K => ?_⟩
        · rw [ec, g_b22_s, z_stopC]
        · rw [hml, em, g_b26_s]
          show f_X12_marsh_158 th so pe fo fi ta (nI n) ac hm hi SL FN WI CO tM rf rw0 K (gs_it _ _ k2) (nI f) (nI s) x1 x2 x3 x4 x5 x6 x7 x8 x9 x10 x11 x12 x13 x14 x15 x16 x17 x18 x19 x20 x21 x22 x23 x24 = _
          generalize gs_it (fun _ _ _ _ _ _ _ _ _ _ _ _ _ _ _ _ _ _ _ _ _ _ _ _ _ _ => none) (f_X12_marsh_158 th so pe fo fi ta (nI n) ac hm hi SL FN WI CO tM rf rw0 K) k2 = G
          unfold f_X12_marsh_158
          rw [x_goodf hf1 hf2, gs_b1_s, if_pos rfl]
end TT
