/-! ===== pure rows: the model reads an expression ===== -/
/-- the loop over operators -/
def x_lp (n : Nat) (fv lv : Int32) (tM : Nat → Int32) (k : Nat) : Int32 → Int32 → Int32 → Int32 → Int32 → Int32 → Int32 → Int32 → Int32 → Int64 → Int32 → Int32 → Int32 → (Nat → Int32) → (Nat → Int32) → (Nat → Int32) → Option (Int32 × Int32 × Int32 × Int32 × Int32 × Int32 × Int32 × Int32 × Int64 × Int32 × Int32 × Int32 × Int32 × Int32 × (Nat → Int32) × (Nat → Int32) × (Nat → Int32)) :=
  gs_it (fun _ _ _ _ _ _ _ _ _ _ _ _ _ _ _ _ => none) (f_X12_expression_39 (nI n) fv lv tM (fun (fk fp nx so pl lo va si : Int32) (wo : Int64) (tp wt dp : Int32) (rc ws ts : Nat → Int32) => f_X12_expression_340 fk fp nx so pl lo va si wo tp fv lv wt dp rc ws ts)) k
def x_at (c : Nat → Nat) (n : Nat) (fv lv : Int32) (tM : Nat → Int32) (k a top wt dp : Nat) (rc ws ts : Nat → Int32) : Option (Int32 × Int32 × Int32 × Int32 × Int32 × Int32 × Int32 × Int32 × Int64 × Int32 × Int32 × Int32 × Int32 × Int32 × (Nat → Int32) × (Nat → Int32) × (Nat → Int32)) :=
  x_lp n fv lv tM k 1 0 (-1) (nI (t_E c n a)) (nI (t_K c n a)) (nI (t_S c n a)) (nI (t_E c n a - t_S c n a)) (t_mv c n a) (t_ms c n a) (t_mw c n a) (nI top) (nI wt) (nI dp) rc ws ts
/-- the loop over what stands ahead of an operand -/
def x_ol (n : Nat) (fv lv : Int32) (tM : Nat → Int32) (top : Nat) (rc : Nat → Int32) (m : Nat) : Int32 → Int32 → Int32 → Int32 → Int32 → Int32 → Int32 → Int32 → Int32 → Int32 → Int64 → Int32 → Int32 → (Nat → Int32) → (Nat → Int32) → Option (Int32 × Int32 × Int32 × Int32 × Int32 × Int32 × Int32 × Int32 × Int64 × Int32 × Int32 × Int32 × (Nat → Int32) × (Nat → Int32) × (Nat → Int32)) :=
  gs_it (fun _ _ _ _ _ _ _ _ _ _ _ _ _ _ _ => none) (f_X12_operand_4 (nI n) (nI top) fv lv tM rc (fun (fk fp nx so pl lo va si : Int32) (wo : Int64) (wt dp : Int32) (ws ts : Nat → Int32) => f_X12_operand_120 fk fp (nI n) nx so pl lo va si wo (nI top) fv lv wt dp tM rc ws ts)) m
def x_KM (n : Nat) (fv lv : Int32) (tM : Nat → Int32) (k : Nat) (fk fp nx so pl lo va si : Int32) (wo : Int64) (tp wt dp : Int32) (rc ws ts : Nat → Int32) : Option (Int32 × Int32 × Int32 × Int32 × Int32 × Int32 × Int32 × Int32 × Int64 × Int32 × Int32 × Int32 × Int32 × Int32 × (Nat → Int32) × (Nat → Int32) × (Nat → Int32)) := x_lp n fv lv tM k 1 fk fp nx so pl lo va si wo tp wt dp rc ws ts
def x_op (c : Nat → Nat) (n : Nat) (fv lv : Int32) (tM : Nat → Int32) (k m : Nat) (mn : Int32) (a top wt dp : Nat) (rc ws ts : Nat → Int32) : Option (Int32 × Int32 × Int32 × Int32 × Int32 × Int32 × Int32 × Int32 × Int64 × Int32 × Int32 × Int32 × Int32 × Int32 × (Nat → Int32) × (Nat → Int32) × (Nat → Int32)) :=
  gs_b15 (x_ol n fv lv tM top rc m mn 1 0 (-1) (nI (t_E c n a)) (nI (t_K c n a)) (nI (t_S c n a)) (nI (t_E c n a - t_S c n a)) (t_mv c n a) (t_ms c n a) (t_mw c n a) (nI wt) (nI dp) ws ts) (x_KM n fv lv tM k)
def x_pt (c : Nat → Nat) (n : Nat) (fv lv : Int32) (tM : Nat → Int32) (k a top wt dp : Nat) (rc ws ts : Nat → Int32) : Option (Int32 × Int32 × Int32 × Int32 × Int32 × Int32 × Int32 × Int32 × Int64 × Int32 × Int32 × Int32 × Int32 × Int32 × (Nat → Int32) × (Nat → Int32) × (Nat → Int32)) :=
  gs_b15 (f_X12_operand_120 0 (-1) (nI n) (nI (t_E c n a)) (nI (t_K c n a)) (nI (t_S c n a)) (nI (t_E c n a - t_S c n a)) (t_mv c n a) (t_ms c n a) (t_mw c n a) (nI top) fv lv (nI wt) (nI dp) tM rc ws ts) (x_KM n fv lv tM k)
/-- behind the nots -/
def x_75 (c : Nat → Nat) (n : Nat) (fv lv : Int32) (tM : Nat → Int32) (k m : Nat) (mn : Int32) (a top wt dp : Nat) (rc ws ts : Nat → Int32) : Option (Int32 × Int32 × Int32 × Int32 × Int32 × Int32 × Int32 × Int32 × Int64 × Int32 × Int32 × Int32 × Int32 × Int32 × (Nat → Int32) × (Nat → Int32) × (Nat → Int32)) :=
  gs_b15 (f_X12_operand_75 (x_ol n fv lv tM top rc m) mn 0 (-1) (nI n) (nI (t_E c n a)) (nI (t_K c n a)) (nI (t_S c n a)) (nI (t_E c n a - t_S c n a)) (t_mv c n a) (t_ms c n a) (t_mw c n a) (nI top) fv lv (nI wt) (nI dp) tM rc ws ts) (x_KM n fv lv tM k)
def x_nl (c : Nat → Nat) (n : Nat) (fv lv : Int32) (tM : Nat → Int32) (k m i j a top wt dp : Nat) (rc ws ts : Nat → Int32) : Option (Int32 × Int32 × Int32 × Int32 × Int32 × Int32 × Int32 × Int32 × Int64 × Int32 × Int32 × Int32 × Int32 × Int32 × (Nat → Int32) × (Nat → Int32) × (Nat → Int32)) :=
  gs_b15 (gs_it (fun _ _ _ _ _ _ _ _ _ _ _ _ => none) (f_X12_operand_18 1 (nI n) (nI top) fv lv (nI dp) tM rc ts (fun (fk fp nx so pl lo va si : Int32) (wo : Int64) (wt : Int32) (ws : Nat → Int32) => f_X12_operand_75 (x_ol n fv lv tM top rc m) 1 fk fp (nI n) nx so pl lo va si wo (nI top) fv lv wt (nI dp) tM rc ws ts)) i (nI j) 0 (-1) (nI (t_E c n a)) (nI (t_K c n a)) (nI (t_S c n a)) (nI (t_E c n a - t_S c n a)) (t_mv c n a) (t_ms c n a) (t_mw c n a) (nI wt) ws) (x_KM n fv lv tM k)
/-- it ends with a fault -/
def x_fin (f s : Nat) (o : Option (Int32 × Int32 × Int32 × Int32 × Int32 × Int32 × Int32 × Int32 × Int64 × Int32 × Int32 × Int32 × Int32 × Int32 × (Nat → Int32) × (Nat → Int32) × (Nat → Int32))) : Prop := ∃ r, o = some (nI f, nI s, r)
theorem x_good0 : f_X12_isGood 0 = some 1 := rfl
theorem x_goodf {f : Nat} (h : 0 < f) (h2 : f < 100) : f_X12_isGood (nI f) = some 0 := by
  unfold f_X12_isGood
  rw [if_neg (n_ne 0 0 rfl (by omega) (by decide) (by omega))]
theorem x_wrong0 (w p s : Int32) : f_X12_wrong w 0 p s = some (w, s) := rfl
theorem g_b15_s {α1 α2 α3 α4 α5 α6 α7 α8 α9 α10 α11 α12 α13 α14 α15 β : Type} {a1 : α1} {a2 : α2} {a3 : α3} {a4 : α4} {a5 : α5} {a6 : α6} {a7 : α7} {a8 : α8} {a9 : α9} {a10 : α10} {a11 : α11} {a12 : α12} {a13 : α13} {a14 : α14} {a15 : α15} {k : α1 → α2 → α3 → α4 → α5 → α6 → α7 → α8 → α9 → α10 → α11 → α12 → α13 → α14 → α15 → Option β} : gs_b15 (some (a1, a2, a3, a4, a5, a6, a7, a8, a9, a10, a11, a12, a13, a14, a15)) k = k a1 a2 a3 a4 a5 a6 a7 a8 a9 a10 a11 a12 a13 a14 a15 := rfl
theorem g_b11_s {α1 α2 α3 α4 α5 α6 α7 α8 α9 α10 α11 β : Type} {a1 : α1} {a2 : α2} {a3 : α3} {a4 : α4} {a5 : α5} {a6 : α6} {a7 : α7} {a8 : α8} {a9 : α9} {a10 : α10} {a11 : α11} {k : α1 → α2 → α3 → α4 → α5 → α6 → α7 → α8 → α9 → α10 → α11 → Option β} : gs_b11 (some (a1, a2, a3, a4, a5, a6, a7, a8, a9, a10, a11)) k = k a1 a2 a3 a4 a5 a6 a7 a8 a9 a10 a11 := rfl
theorem x_lp_s (n : Nat) (fv lv : Int32) (tM : Nat → Int32) (k : Nat) : x_lp n fv lv tM (k + 1) = f_X12_expression_39 (nI n) fv lv tM (fun (fk fp nx so pl lo va si : Int32) (wo : Int64) (tp wt dp : Int32) (rc ws ts : Nat → Int32) => f_X12_expression_340 fk fp nx so pl lo va si wo tp fv lv wt dp rc ws ts) (x_lp n fv lv tM k) := rfl
theorem x_ol_s (n : Nat) (fv lv : Int32) (tM : Nat → Int32) (top : Nat) (rc : Nat → Int32) (m : Nat) : x_ol n fv lv tM top rc (m + 1) = f_X12_operand_4 (nI n) (nI top) fv lv tM rc (fun (fk fp nx so pl lo va si : Int32) (wo : Int64) (wt dp : Int32) (ws ts : Nat → Int32) => f_X12_operand_120 fk fp (nI n) nx so pl lo va si wo (nI top) fv lv wt dp tM rc ws ts) (x_ol n fv lv tM top rc m) := rfl
section MA
variable {c : Nat → Nat} {n : Nat} {fv lv : Int32} {tM : Nat → Int32}
theorem y_4_end {tp : Int32} {rc : Nat → Int32} (K120 : Int32 → Int32 → Int32 → Int32 → Int32 → Int32 → Int32 → Int32 → Int64 → Int32 → Int32 → (Nat → Int32) → (Nat → Int32) → Option (Int32 × Int32 × Int32 × Int32 × Int32 × Int32 × Int32 × Int32 × Int64 × Int32 × Int32 × Int32 × (Nat → Int32) × (Nat → Int32) × (Nat → Int32))) (K4 : Int32 → Int32 → Int32 → Int32 → Int32 → Int32 → Int32 → Int32 → Int32 → Int32 → Int64 → Int32 → Int32 → (Nat → Int32) → (Nat → Int32) → Option (Int32 × Int32 × Int32 × Int32 × Int32 × Int32 × Int32 × Int32 × Int64 × Int32 × Int32 × Int32 × (Nat → Int32) × (Nat → Int32) × (Nat → Int32))) (x2 fk fp nx so pl lo va si : Int32) (wo : Int64) (wt dp : Int32) (ws ts : Nat → Int32) : f_X12_operand_4 (nI n) tp fv lv tM rc K120 K4 x2 0 fk fp nx so pl lo va si wo wt dp ws ts = K120 fk fp nx so pl lo va si wo wt dp ws ts := by
  unfold f_X12_operand_4
  rw [if_pos rfl]
theorem y_4_bad {tp fk : Int32} {rc : Nat → Int32} (hf : f_X12_isGood fk = some 0) (K120 : Int32 → Int32 → Int32 → Int32 → Int32 → Int32 → Int32 → Int32 → Int64 → Int32 → Int32 → (Nat → Int32) → (Nat → Int32) → Option (Int32 × Int32 × Int32 × Int32 × Int32 × Int32 × Int32 × Int32 × Int64 × Int32 × Int32 × Int32 × (Nat → Int32) × (Nat → Int32) × (Nat → Int32))) (K4 : Int32 → Int32 → Int32 → Int32 → Int32 → Int32 → Int32 → Int32 → Int32 → Int32 → Int64 → Int32 → Int32 → (Nat → Int32) → (Nat → Int32) → Option (Int32 × Int32 × Int32 × Int32 × Int32 × Int32 × Int32 × Int32 × Int64 × Int32 × Int32 × Int32 × (Nat → Int32) × (Nat → Int32) × (Nat → Int32))) (x2 fp nx so pl lo va si : Int32) (wo : Int64) (wt dp : Int32) (ws ts : Nat → Int32) : f_X12_operand_4 (nI n) tp fv lv tM rc K120 K4 x2 1 fk fp nx so pl lo va si wo wt dp ws ts = K120 fk fp nx so pl lo va si wo wt dp ws ts := by
  unfold f_X12_operand_4
  rw [if_neg n10, hf, gs_b1_s, if_pos rfl]
theorem y_4_go {tp : Int32} {rc : Nat → Int32} (K120 : Int32 → Int32 → Int32 → Int32 → Int32 → Int32 → Int32 → Int32 → Int64 → Int32 → Int32 → (Nat → Int32) → (Nat → Int32) → Option (Int32 × Int32 × Int32 × Int32 × Int32 × Int32 × Int32 × Int32 × Int64 × Int32 × Int32 × Int32 × (Nat → Int32) × (Nat → Int32) × (Nat → Int32))) (K4 : Int32 → Int32 → Int32 → Int32 → Int32 → Int32 → Int32 → Int32 → Int32 → Int32 → Int64 → Int32 → Int32 → (Nat → Int32) → (Nat → Int32) → Option (Int32 × Int32 × Int32 × Int32 × Int32 × Int32 × Int32 × Int32 × Int64 × Int32 × Int32 × Int32 × (Nat → Int32) × (Nat → Int32) × (Nat → Int32))) (x2 fp nx so pl lo va si : Int32) (wo : Int64) (wt dp : Int32) (ws ts : Nat → Int32) : f_X12_operand_4 (nI n) tp fv lv tM rc K120 K4 x2 1 0 fp nx so pl lo va si wo wt dp ws ts = gs_it (fun _ _ _ _ _ _ _ _ _ _ _ _ => none) (f_X12_operand_18 x2 (nI n) tp fv lv dp tM rc ts (fun (fk fp nx so pl lo va si : Int32) (wo : Int64) (wt : Int32) (ws : Nat → Int32) => f_X12_operand_75 K4 x2 fk fp (nI n) nx so pl lo va si wo tp fv lv wt dp tM rc ws ts)) gs_fuel 0 0 fp nx so pl lo va si wo wt ws := by
  unfold f_X12_operand_4
  rw [if_neg n10, x_good0, gs_b1_s, if_neg n10]
theorem y_18_no {tp dp : Int32} {rc ts : Nat → Int32} (K75 : Int32 → Int32 → Int32 → Int32 → Int32 → Int32 → Int32 → Int32 → Int64 → Int32 → (Nat → Int32) → Option (Int32 × Int32 × Int32 × Int32 × Int32 × Int32 × Int32 × Int32 × Int64 × Int32 × Int32 × Int32 × (Nat → Int32) × (Nat → Int32) × (Nat → Int32))) (K18 : Int32 → Int32 → Int32 → Int32 → Int32 → Int32 → Int32 → Int32 → Int32 → Int64 → Int32 → (Nat → Int32) → Option (Int32 × Int32 × Int32 × Int32 × Int32 × Int32 × Int32 × Int32 × Int64 × Int32 × Int32 × Int32 × (Nat → Int32) × (Nat → Int32) × (Nat → Int32))) (x4 fp nx so pl lo va si : Int32) (wo : Int64) (wt : Int32) (ws : Nat → Int32) : f_X12_operand_18 0 (nI n) tp fv lv dp tM rc ts K75 K18 x4 0 fp nx so pl lo va si wo wt ws = K75 0 fp nx so pl lo va si wo wt ws := by
  unfold f_X12_operand_18
  rw [x_good0, gs_b1_s, if_neg n10, if_pos rfl]
theorem y_18_bad {tp dp fk x2 : Int32} {rc ts : Nat → Int32} (hf : f_X12_isGood fk = some 0) (K75 : Int32 → Int32 → Int32 → Int32 → Int32 → Int32 → Int32 → Int32 → Int64 → Int32 → (Nat → Int32) → Option (Int32 × Int32 × Int32 × Int32 × Int32 × Int32 × Int32 × Int32 × Int64 × Int32 × Int32 × Int32 × (Nat → Int32) × (Nat → Int32) × (Nat → Int32))) (K18 : Int32 → Int32 → Int32 → Int32 → Int32 → Int32 → Int32 → Int32 → Int32 → Int64 → Int32 → (Nat → Int32) → Option (Int32 × Int32 × Int32 × Int32 × Int32 × Int32 × Int32 × Int32 × Int64 × Int32 × Int32 × Int32 × (Nat → Int32) × (Nat → Int32) × (Nat → Int32))) (x4 fp nx so pl lo va si : Int32) (wo : Int64) (wt : Int32) (ws : Nat → Int32) : f_X12_operand_18 x2 (nI n) tp fv lv dp tM rc ts K75 K18 x4 fk fp nx so pl lo va si wo wt ws = K75 fk fp nx so pl lo va si wo wt ws := by
  unfold f_X12_operand_18
  rw [hf, gs_b1_s, if_pos rfl]
theorem y_18_end {tp dp : Int32} {rc ts : Nat → Int32} {a : Nat} (ha : a ≤ n) (hn : n ≤ 700) (hW : t_W c n a ≠ 17) (K75 : Int32 → Int32 → Int32 → Int32 → Int32 → Int32 → Int32 → Int32 → Int64 → Int32 → (Nat → Int32) → Option (Int32 × Int32 × Int32 × Int32 × Int32 × Int32 × Int32 × Int32 × Int64 × Int32 × Int32 × Int32 × (Nat → Int32) × (Nat → Int32) × (Nat → Int32))) (K18 : Int32 → Int32 → Int32 → Int32 → Int32 → Int32 → Int32 → Int32 → Int32 → Int64 → Int32 → (Nat → Int32) → Option (Int32 × Int32 × Int32 × Int32 × Int32 × Int32 × Int32 × Int32 × Int64 × Int32 × Int32 × Int32 × (Nat → Int32) × (Nat → Int32) × (Nat → Int32))) (x4 fp wt : Int32) (ws : Nat → Int32) : f_X12_operand_18 1 (nI n) tp fv lv dp tM rc ts K75 K18 x4 0 fp (nI (t_E c n a)) (nI (t_K c n a)) (nI (t_S c n a)) (nI (t_E c n a - t_S c n a)) (t_mv c n a) (t_ms c n a) (t_mw c n a) wt ws = K75 0 fp (nI (t_E c n a)) (nI (t_K c n a)) (nI (t_S c n a)) (nI (t_E c n a - t_S c n a)) (t_mv c n a) (t_ms c n a) (t_mw c n a) wt ws := by
  have hWl := t_W_le c n a
  unfold f_X12_operand_18
  rw [x_good0, gs_b1_s, if_neg n10, if_neg n10, t_knw ha hn, gs_b1_s, if_neg]
  intro z
  by_cases e : t_W c n a = 18
  · rw [if_pos e] at z
    exact absurd z (by decide)
  · rw [if_neg e] at z
    exact hW ((nI_eq (a := t_W c n a) (b := 17) (by omega) (by omega)).mp z)
theorem y_18_not (hn : n ≤ 700) (h : ∀ j, j < n → c j < 256 ∧ tM j = nI (c j)) {tp dp : Int32} {rc ts : Nat → Int32} {a j wt : Nat} (ha : a ≤ n) (hW : t_W c n a = 17) (hj : j < 6) (hwt : wt < 900) (K75 : Int32 → Int32 → Int32 → Int32 → Int32 → Int32 → Int32 → Int32 → Int64 → Int32 → (Nat → Int32) → Option (Int32 × Int32 × Int32 × Int32 × Int32 × Int32 × Int32 × Int32 × Int64 × Int32 × Int32 × Int32 × (Nat → Int32) × (Nat → Int32) × (Nat → Int32))) (K18 : Int32 → Int32 → Int32 → Int32 → Int32 → Int32 → Int32 → Int32 → Int32 → Int64 → Int32 → (Nat → Int32) → Option (Int32 × Int32 × Int32 × Int32 × Int32 × Int32 × Int32 × Int32 × Int64 × Int32 × Int32 × Int32 × (Nat → Int32) × (Nat → Int32) × (Nat → Int32))) (fp : Int32) (ws : Nat → Int32) : f_X12_operand_18 1 (nI n) tp fv lv dp tM rc ts K75 K18 (nI j) 0 fp (nI (t_E c n a)) (nI (t_K c n a)) (nI (t_S c n a)) (nI (t_E c n a - t_S c n a)) (t_mv c n a) (t_ms c n a) (t_mw c n a) (nI wt) ws = K18 (nI (j + 1)) 0 fp (nI (t_E c n (t_E c n a))) (nI (t_K c n (t_E c n a))) (nI (t_S c n (t_E c n a))) (nI (t_E c n (t_E c n a) - t_S c n (t_E c n a))) (t_mv c n (t_E c n a)) (t_ms c n (t_E c n a)) (t_mw c n (t_E c n a)) (nI (wt + 1)) (upd ws wt 3) := by
  have hE := t_E_le c ha
  unfold f_X12_operand_18
  rw [x_good0, gs_b1_s, if_neg n10, if_neg n10, t_knw ha hn, hW, if_neg (by decide), gs_b1_s, if_pos (show nI 17 = 17 from rfl), if_neg (n_ne 6 6 rfl (by omega) (by decide) (by omega))]
  unfold f_X12_operand_50
  rw [x_good0, gs_b1_s, if_neg n10, m_waits (by omega), g_b2_s, t_goes hn h _ _ _ _ _ _ hE.2.1, g_b7_s, nI_1]
theorem y_18_much (hn : n ≤ 700) {tp dp : Int32} {rc ts : Nat → Int32} {a : Nat} (ha : a ≤ n) (hW : t_W c n a = 17) (K75 : Int32 → Int32 → Int32 → Int32 → Int32 → Int32 → Int32 → Int32 → Int64 → Int32 → (Nat → Int32) → Option (Int32 × Int32 × Int32 × Int32 × Int32 × Int32 × Int32 × Int32 × Int64 × Int32 × Int32 × Int32 × (Nat → Int32) × (Nat → Int32) × (Nat → Int32))) (K18 : Int32 → Int32 → Int32 → Int32 → Int32 → Int32 → Int32 → Int32 → Int32 → Int64 → Int32 → (Nat → Int32) → Option (Int32 × Int32 × Int32 × Int32 × Int32 × Int32 × Int32 × Int32 × Int64 × Int32 × Int32 × Int32 × (Nat → Int32) × (Nat → Int32) × (Nat → Int32))) (fp wt : Int32) (ws : Nat → Int32) : f_X12_operand_18 1 (nI n) tp fv lv dp tM rc ts K75 K18 (nI 6) 0 fp (nI (t_E c n a)) (nI (t_K c n a)) (nI (t_S c n a)) (nI (t_E c n a - t_S c n a)) (t_mv c n a) (t_ms c n a) (t_mw c n a) wt ws = K18 (nI 6 + 1) 2 (nI (t_S c n a)) (nI (t_E c n a)) (nI (t_K c n a)) (nI (t_S c n a)) (nI (t_E c n a - t_S c n a)) (t_mv c n a) (t_ms c n a) (t_mw c n a) wt ws := by
  have g2 : f_X12_isGood 2 = some 0 := by decide
  unfold f_X12_operand_18
  rw [x_good0, gs_b1_s, if_neg n10, if_neg n10, t_knw ha hn, hW, if_neg (by decide), gs_b1_s, if_pos (show nI 17 = 17 from rfl), if_pos (show nI 6 = 6 from rfl), x_wrong0, g_b2_s]
  unfold f_X12_operand_50
  rw [g2, gs_b1_s, if_pos rfl]
theorem x_360 {w : List Nat} {top : Nat} {rc ws : Nat → Int32} (hw : ∀ x, x ∈ w → x ≤ 9) (hst : m_st ws w) (h1 : top + w.length + 1 ≤ 1400) (h2 : w.length ≤ 900) (fk fp nx so pl lo va si : Int32) (wo : Int64) (dp : Int32) (ts : Nat → Int32) : ∃ r, f_X12_expression_360 fk fp nx so pl lo va si wo (nI top) fv lv (nI w.length) dp rc ws ts = some (fk, fp, r) := by
  obtain ⟨p, q, e, hp, hb⟩ := m_split w hw
  subst e
  rw [List.length_append] at h1 h2 ⊢
  obtain ⟨rc', ed, -, -⟩ := m_drops (k := 0) (by omega) hb (fun x hx => hw x (List.mem_append_right _ hx)) p top rc (fun x hx => ⟨hp x hx, Nat.zero_le _⟩) hst (by omega) h2
  unfold f_X12_expression_360
  rw [show f_X12_drops 0 (nI top) (nI (p.length + q.length)) rc ws = _ from ed, g_b3_s, m_puts (by omega), g_b2_s]
  exact ⟨_, rfl⟩
theorem x_bad {w : List Nat} {top k f s : Nat} {rc ws : Nat → Int32} (hf : 0 < f) (hf2 : f < 100) (hw : ∀ x, x ∈ w → x ≤ 9) (hst : m_st ws w) (h1 : top + w.length + 1 ≤ 1400) (h2 : w.length ≤ 900) (nx so pl lo va si : Int32) (wo : Int64) (dp : Int32) (ts : Nat → Int32) : x_fin f s (x_lp n fv lv tM (k + 1) 1 (nI f) (nI s) nx so pl lo va si wo (nI top) (nI w.length) dp rc ws ts) := by
  rw [x_lp_s]
  unfold f_X12_expression_39
  rw [if_neg n10, x_goodf hf hf2, gs_b1_s, if_pos rfl]
  try dsimp only
  unfold f_X12_expression_340
  rw [x_goodf hf hf2, gs_b1_s, if_pos rfl]
  exact x_360 hw hst h1 h2 _ _ _ _ _ _ _ _ _ _ _
/-- a fault ahead of an operand -/
theorem x_badO {w : List Nat} {top k m f s : Nat} {rc ws : Nat → Int32} (hf : 0 < f) (hf2 : f < 100) (hw : ∀ x, x ∈ w → x ≤ 9) (hst : m_st ws w) (h1 : top + w.length + 1 ≤ 1400) (h2 : w.length ≤ 900) (mn nx so pl lo va si : Int32) (wo : Int64) (dp : Int32) (ts : Nat → Int32) : x_fin f s (gs_b15 (x_ol n fv lv tM top rc (m + 1) mn 1 (nI f) (nI s) nx so pl lo va si wo (nI w.length) dp ws ts) (x_KM n fv lv tM (k + 1))) := by
  have e : x_ol n fv lv tM top rc (m + 1) mn 1 (nI f) (nI s) nx so pl lo va si wo (nI w.length) dp ws ts = some (nI f, nI s, nx, so, pl, lo, va, si, wo, nI top, nI w.length, dp, rc, ws, ts) := by
    rw [x_ol_s, y_4_bad (x_goodf hf hf2)]
    try dsimp only
    unfold f_X12_operand_120 f_X12_part
    rw [x_goodf hf hf2, gs_b1_s, if_pos rfl, g_b11_s]
  rw [e, g_b15_s]
  unfold x_KM
  exact x_bad hf hf2 hw hst h1 h2 _ _ _ _ _ _ _ _ _
theorem x_75_pt (h : ∀ j, j < n → c j < 256) {k m a top wt dp : Nat} {mn : Int32} {rc ws ts : Nat → Int32} (hG : t_G c n a 40 = false) : x_75 c n fv lv tM k (m + 1) mn a top wt dp rc ws ts = x_pt c n fv lv tM k a top wt dp rc ws ts := by
  unfold x_75 x_pt f_X12_operand_75
  have hs : f_X12_isSign 40 (nI (t_K c n a)) (t_ms c n a) = some (if t_G c n a 40 = true then 1 else 0) := t_signM h (w := 40) (by decide)
  rw [x_good0, gs_b1_s, if_neg n10, hs, hG, gs_b1_s, if_neg Bool.false_ne_true, if_pos rfl]
  unfold f_X12_operand_96
  rw [if_pos rfl]
  try dsimp only
  rw [x_ol_s, y_4_end]
  try dsimp only
theorem x_75_open (hn : n ≤ 700) (h : ∀ j, j < n → c j < 256 ∧ tM j = nI (c j)) {k m a top wt dp : Nat} {mn : Int32} {rc ws ts : Nat → Int32} (ha : a ≤ n) (hG : t_G c n a 40 = true) (hwt : wt < 900) (hdp : dp < 6) : x_75 c n fv lv tM k m mn a top wt dp rc ws ts = x_op c n fv lv tM k m 1 (t_E c n a) top (wt + 1) (dp + 1) rc (upd ws wt 14) (upd ts (dp + 1) 0) := by
  have hE := t_E_le c ha
  unfold x_75 x_op f_X12_operand_75
  have hs : f_X12_isSign 40 (nI (t_K c n a)) (t_ms c n a) = some (if t_G c n a 40 = true then 1 else 0) := t_signM (fun j hj => (h j hj).1) (w := 40) (by decide)
  rw [x_good0, gs_b1_s, if_neg n10, hs, hG, gs_b1_s, if_pos rfl, if_neg n10]
  unfold f_X12_operand_96
  rw [if_neg n10, m_waits (by omega), g_b2_s, t_goes hn h _ _ _ _ _ _ hE.2.1, g_b7_s]
  unfold f_X12_deeper
  rw [if_neg (show ¬ (6 : Int32) ≤ nI dp from nI_ge (b := 6) hdp (by omega)), nI_1, gs_gd_t (gs_in_nI (by omega) (by decide)), nI_clamp (by omega), g_b4_s]
  try rfl
theorem x_75_deep (hn : n ≤ 700) (h : ∀ j, j < n → c j < 256 ∧ tM j = nI (c j)) {k m a top : Nat} {w : List Nat} {mn : Int32} {rc ws ts : Nat → Int32} (ha : a ≤ n) (hG : t_G c n a 40 = true) (hw : ∀ x, x ∈ w → x ≤ 9) (hst : m_st ws w) (h1 : top + w.length + 2 ≤ 1400) (h2 : w.length < 900) :
    x_fin (if t_K c n (t_E c n a) = 2 ∨ t_K c n (t_E c n a) = 1 ∨ t_G c n (t_E c n a) 40 = true then 2 else 1) (t_S c n (t_E c n a)) (x_75 c n fv lv tM (k + 1) (m + 1) mn a top w.length 6 rc ws ts) := by
  have hE := t_E_le c ha
  have hK := t_K_le c n (t_E c n a)
  unfold x_75 f_X12_operand_75
  have hs : f_X12_isSign 40 (nI (t_K c n a)) (t_ms c n a) = some (if t_G c n a 40 = true then 1 else 0) := t_signM (fun j hj => (h j hj).1) (w := 40) (by decide)
  have hs2 : f_X12_isSign 40 (nI (t_K c n (t_E c n a))) (t_ms c n (t_E c n a)) = some (if t_G c n (t_E c n a) 40 = true then 1 else 0) := t_signM (fun j hj => (h j hj).1) (w := 40) (by decide)
  rw [x_good0, gs_b1_s, if_neg n10, hs, hG, gs_b1_s, if_pos rfl, if_neg n10]
  unfold f_X12_operand_96
  rw [if_neg n10, m_waits (by omega), g_b2_s, t_goes hn h _ _ _ _ _ _ hE.2.1, g_b7_s]
  have go : ∀ f : Nat, (f = 1 ∨ f = 2) → x_fin f (t_S c n (t_E c n a)) (gs_b15 (x_ol n fv lv tM top rc (m + 1) 1 1 (nI f) (nI (t_S c n (t_E c n a))) (nI (t_E c n (t_E c n a))) (nI (t_K c n (t_E c n a))) (nI (t_S c n (t_E c n a))) (nI (t_E c n (t_E c n a) - t_S c n (t_E c n a))) (t_mv c n (t_E c n a)) (t_ms c n (t_E c n a)) (t_mw c n (t_E c n a)) (nI (w.length + 1)) (nI 6) (upd ws w.length 14) ts) (x_KM n fv lv tM (k + 1))) := by
    intro f hf
    have := x_badO (n := n) (fv := fv) (lv := lv) (tM := tM) (w := 9 :: w) (top := top) (k := k) (m := m) (f := f) (s := t_S c n (t_E c n a)) (rc := rc) (ws := upd ws w.length 14) (by omega) (by omega) (fun x hx => by
      rcases List.mem_cons.mp hx with z | z
      · omega
      · exact hw x z) ⟨pk_us, m_st_upd hst (Nat.le_refl _)⟩ (by rw [List.length_cons]; omega) (by rw [List.length_cons]; omega) 1 (nI (t_E c n (t_E c n a))) (nI (t_K c n (t_E c n a))) (nI (t_S c n (t_E c n a))) (nI (t_E c n (t_E c n a) - t_S c n (t_E c n a))) (t_mv c n (t_E c n a)) (t_ms c n (t_E c n a)) (t_mw c n (t_E c n a)) (nI 6) ts
    rw [List.length_cons] at this
    exact this
  unfold f_X12_deeper f_X12_deeper_61
  rw [if_pos (show (6 : Int32) ≤ nI 6 from by decide), x_wrong0, x_wrong0, g_b2_s, g_b2_s, hs2, gs_b1_s]
  by_cases c2 : t_K c n (t_E c n a) = 2
  · rw [if_pos (Or.inl c2), if_pos (show nI (t_K c n (t_E c n a)) = 2 from by rw [c2]; rfl), g_b4_s]
    exact go 2 (Or.inr rfl)
  · rw [if_neg (n_ne 2 2 rfl (by omega) (by decide) c2)]
    by_cases c1 : t_K c n (t_E c n a) = 1
    · rw [if_pos (Or.inr (Or.inl c1)), if_pos (show nI (t_K c n (t_E c n a)) = 1 from by rw [c1]; rfl), g_b4_s]
      exact go 2 (Or.inr rfl)
    · rw [if_neg (n_ne 1 1 rfl (by omega) (by decide) c1)]
      by_cases c3 : t_G c n (t_E c n a) 40 = true
      · rw [if_pos (Or.inr (Or.inr c3)), if_pos c3, if_neg n10, g_b4_s]
        exact go 2 (Or.inr rfl)
      · rw [if_neg (show ¬ (t_K c n (t_E c n a) = 2 ∨ t_K c n (t_E c n a) = 1 ∨ t_G c n (t_E c n a) 40 = true) from by simp [c1, c2, c3]), if_neg c3, if_pos rfl, g_b4_s]
        exact go 1 (Or.inl rfl)
theorem x_op_0 {k m a top wt dp : Nat} {rc ws ts : Nat → Int32} : x_op c n fv lv tM k (m + 1) 0 a top wt dp rc ws ts = x_75 c n fv lv tM k m 0 a top wt dp rc ws ts := by
  unfold x_op x_75
  rw [x_ol_s, y_4_go, show gs_fuel = 19999 + 1 from rfl, gs_it_s, y_18_no]
theorem x_op_1 {k m a top wt dp : Nat} {rc ws ts : Nat → Int32} : x_op c n fv lv tM k (m + 1) 1 a top wt dp rc ws ts = x_nl c n fv lv tM k m gs_fuel 0 a top wt dp rc ws ts := by
  unfold x_op x_nl
  rw [x_ol_s, y_4_go]
  try rfl
theorem x_nl_end {k m i j a top wt dp : Nat} {rc ws ts : Nat → Int32} (ha : a ≤ n) (hn : n ≤ 700) (hW : t_W c n a ≠ 17) : x_nl c n fv lv tM k m (i + 1) j a top wt dp rc ws ts = x_75 c n fv lv tM k m 1 a top wt dp rc ws ts := by
  unfold x_nl x_75
  rw [gs_it_s, y_18_end ha hn hW]
theorem x_nl_not (hn : n ≤ 700) (h : ∀ j, j < n → c j < 256 ∧ tM j = nI (c j)) {k m i j a top wt dp : Nat} {rc ws ts : Nat → Int32} (ha : a ≤ n) (hW : t_W c n a = 17) (hj : j < 6) (hwt : wt < 900) : x_nl c n fv lv tM k m (i + 1) j a top wt dp rc ws ts = x_nl c n fv lv tM k m i (j + 1) (t_E c n a) top (wt + 1) dp rc (upd ws wt 3) ts := by
  unfold x_nl
  rw [gs_it_s, y_18_not hn h ha hW hj hwt]
theorem x_nl_much (hn : n ≤ 700) {k m i a top dp : Nat} {w : List Nat} {rc ws ts : Nat → Int32} (ha : a ≤ n) (hW : t_W c n a = 17) (hw : ∀ x, x ∈ w → x ≤ 9) (hst : m_st ws w) (h1 : top + w.length + 1 ≤ 1400) (h2 : w.length ≤ 900) : x_fin 2 (t_S c n a) (x_nl c n fv lv tM (k + 1) (m + 1) (i + 2) 6 a top w.length dp rc ws ts) := by
  have g2 : f_X12_isGood 2 = some 0 := by decide
  unfold x_nl
  rw [show i + 2 = (i + 1) + 1 from rfl, gs_it_s, y_18_much hn ha hW, gs_it_s, y_18_bad g2]
  try dsimp only
  unfold f_X12_operand_75
  rw [g2, gs_b1_s, if_pos rfl]
  unfold f_X12_operand_96
  rw [if_pos rfl]
  try dsimp only
  rw [x_ol_s, y_4_end]
  try dsimp only
  unfold f_X12_operand_120 f_X12_part
  rw [g2, gs_b1_s, if_pos rfl, g_b11_s, g_b15_s]
  unfold x_KM
  exact x_bad (f := 2) (by decide) (by decide) hw hst h1 h2 _ _ _ _ _ _ _ _ _
end MA
