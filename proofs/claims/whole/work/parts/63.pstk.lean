/-! ===== pure rows: steps, and what waits ===== -/
def m_op (x : Nat) : Nat := if x = 9 then 14 else g_mo x
def m_sr (x : Nat) : Nat := [1, 2, 3, 4, 4, 5, 5, 6, 6].getD x 0
def m_st (a : Nat → Int32) : List Nat → Prop
  | [] => True
  | x :: r => a r.length = nI (m_op x) ∧ m_st a r
def m_ln : List Nat → Nat
  | [] => 0
  | t :: c => (if t < 20000 then 2 else 1) + m_ln c
def m_sg (code : Nat → Int32) : Nat → List Nat → Prop
  | _, [] => True
  | k, t :: c => if t < 10000 then code k = 1 ∧ code (k + 1) = nI t ∧ m_sg code (k + 2) c
    else if t < 20000 then code k = 2 ∧ code (k + 1) = nI (g_mv (t - 10000)) ∧ m_sg code (k + 2) c
    else code k = nI (g_mo (t - 20000)) ∧ m_sg code (k + 1) c
def m_ops (p : List Nat) : List Nat := p.map (fun x => 20000 + x)
/-- what waits below is no stronger -/
def m_bk (k : Nat) : List Nat → Prop
  | [] => True
  | x :: _ => x = 9 ∨ m_sr x < k
theorem m_tab : ∀ x, x < 10 → (f_X12_isOpen (nI (m_op x)) = some (if x = 9 then 1 else 0)) ∧ (x < 9 → f_X12_strength (nI (m_op x)) = some (nI (m_sr x)) ∧ m_sr x ≤ 6 ∧ 1 ≤ m_sr x ∧ m_op x = g_mo x) := by decide +kernel
theorem m_st_upd {a : Nat → Int32} {j : Nat} {x : Int32} : ∀ {w : List Nat}, m_st a w → w.length ≤ j → m_st (upd a j x) w
  | [], _, _ => trivial
  | y :: r, h, hl => by
    have hl' : r.length + 1 ≤ j := hl
    exact ⟨by unfold upd; rw [if_neg (by omega)]; exact h.1, m_st_upd h.2 (by omega)⟩
theorem m_st_app {a : Nat → Int32} : ∀ {p w : List Nat}, m_st a (p ++ w) → m_st a w
  | [], _, h => h
  | _ :: _, _, h => m_st_app h.2
theorem m_ln_app : ∀ (c d : List Nat), m_ln (c ++ d) = m_ln c + m_ln d
  | [], d => by rw [List.nil_append, m_ln, Nat.zero_add]
  | t :: c, d => by rw [List.cons_append, m_ln, m_ln, m_ln_app c d, Nat.add_assoc]
theorem m_ln_le : ∀ (c : List Nat), m_ln c ≤ 2 * c.length
  | [] => Nat.le_refl _
  | t :: c => by
    have := m_ln_le c
    rw [m_ln, List.length_cons]
    split <;> omega
theorem m_ln_ops : ∀ (p : List Nat), m_ln (m_ops p) = p.length
  | [] => rfl
  | x :: p => by
    have := m_ln_ops p
    unfold m_ops at this ⊢
    rw [List.map_cons, m_ln, if_neg (by omega), this, List.length_cons, Nat.add_comm]
theorem m_ops_len (p : List Nat) : (m_ops p).length = p.length := List.length_map ..
theorem m_sg_app {code : Nat → Int32} : ∀ (c d : List Nat) (k : Nat), m_sg code k c → m_sg code (k + m_ln c) d → m_sg code k (c ++ d)
  | [], d, k, _, h => by rw [List.nil_append]; exact h
  | t :: c, d, k, h1, h2 => by
    rw [List.cons_append, m_sg]
    rw [m_sg] at h1
    rw [m_ln] at h2
    by_cases a1 : t < 10000
    · rw [if_pos a1] at h1 ⊢
      rw [if_pos (by omega)] at h2
      exact ⟨h1.1, h1.2.1, m_sg_app c d _ h1.2.2 (by rw [Nat.add_assoc]; exact h2)⟩
    · rw [if_neg a1] at h1 ⊢
      by_cases a2 : t < 20000
      · rw [if_pos a2] at h1 h2 ⊢
        exact ⟨h1.1, h1.2.1, m_sg_app c d _ h1.2.2 (by rw [Nat.add_assoc]; exact h2)⟩
      · rw [if_neg a2] at h1 h2 ⊢
        exact ⟨h1.1, m_sg_app c d _ h1.2 (by rw [Nat.add_assoc]; exact h2)⟩
theorem m_sg_cong {a b : Nat → Int32} : ∀ (c : List Nat) (k : Nat), (∀ j, k ≤ j → j < k + m_ln c → b j = a j) → m_sg a k c → m_sg b k c
  | [], k, _, _ => trivial
  | t :: c, k, h, h1 => by
    rw [m_sg] at h1 ⊢
    rw [m_ln] at h
    by_cases a1 : t < 10000
    · rw [if_pos a1] at h1 ⊢
      rw [if_pos (by omega)] at h
      exact ⟨by rw [h k (by omega) (by omega)]; exact h1.1, by rw [h (k + 1) (by omega) (by omega)]; exact h1.2.1, m_sg_cong c _ (fun j hj1 hj2 => h j (by omega) (by omega)) h1.2.2⟩
    · rw [if_neg a1] at h1 ⊢
      by_cases a2 : t < 20000
      · rw [if_pos a2] at h1 h ⊢
        exact ⟨by rw [h k (by omega) (by omega)]; exact h1.1, by rw [h (k + 1) (by omega) (by omega)]; exact h1.2.1, m_sg_cong c _ (fun j hj1 hj2 => h j (by omega) (by omega)) h1.2.2⟩
      · rw [if_neg a2] at h1 h ⊢
        exact ⟨by rw [h k (by omega) (by omega)]; exact h1.1, m_sg_cong c _ (fun j hj1 hj2 => h j (by omega) (by omega)) h1.2⟩
theorem m_sg_seg {a : Nat → Int32} : ∀ (c : List Nat) (k : Nat), m_sg a k c → a (k + m_ln c) = 0 → m_seg a k c
  | [], k, _, h => by rw [m_ln, Nat.add_zero] at h; exact h
  | t :: c, k, h1, h => by
    rw [m_sg] at h1
    rw [m_seg]
    rw [m_ln] at h
    by_cases a1 : t < 10000
    · rw [if_pos a1] at h1 ⊢
      rw [if_pos (by omega)] at h
      exact ⟨h1.1, h1.2.1, m_sg_seg c _ h1.2.2 (by rw [Nat.add_assoc]; exact h)⟩
    · rw [if_neg a1] at h1 ⊢
      by_cases a2 : t < 20000
      · rw [if_pos a2] at h1 h ⊢
        exact ⟨h1.1, h1.2.1, m_sg_seg c _ h1.2.2 (by rw [Nat.add_assoc]; exact h)⟩
      · rw [if_neg a2] at h1 h ⊢
        exact ⟨h1.1, m_sg_seg c _ h1.2 (by rw [Nat.add_assoc]; exact h)⟩
theorem g_seg_app {code : Nat → Int32} : ∀ (c d : List Nat) (k : Nat), g_seg code k c → g_seg code (k + c.length) d → g_seg code k (c ++ d)
  | [], d, k, _, h => by rw [List.nil_append]; exact h
  | t :: c, d, k, h1, h2 => by
    rw [List.length_cons] at h2
    exact ⟨h1.1, g_seg_app c d (k + 1) h1.2 (by rw [show k + 1 + c.length = k + (c.length + 1) by omega]; exact h2)⟩
theorem g_seg_cong {a b : Nat → Int32} : ∀ (c : List Nat) (k : Nat), (∀ j, k ≤ j → j < k + c.length → b j = a j) → g_seg a k c → g_seg b k c
  | [], k, _, _ => trivial
  | t :: c, k, h, h1 => by
    rw [List.length_cons] at h
    exact ⟨by rw [h k (by omega) (by omega)]; exact h1.1, g_seg_cong c (k + 1) (fun j hj1 hj2 => h j (by omega) (by omega)) h1.2⟩
theorem m_puts {top : Nat} (h : top < 1400) (x : Int32) (rc : Nat → Int32) : f_X12_puts x (nI top) rc = some (nI (top + 1), upd rc top x) := by
  unfold f_X12_puts
  rw [gs_gd_t (gs_in_nI h (by decide)), nI_clamp (by omega), nI_1]
theorem m_waits {k : Nat} (h : k < 950) (x : Int32) (ws : Nat → Int32) : f_X12_waitsFor x (nI k) ws = some (nI (k + 1), upd ws k x) := by
  unfold f_X12_waitsFor
  rw [gs_gd_t (gs_in_nI h (by decide)), nI_clamp (by omega), nI_1]
/-- what is stronger goes behind the steps -/
theorem m_drops {ws : Nat → Int32} {w : List Nat} {k : Nat} (hk6 : k ≤ 6) (hbk : m_bk k w) (hw : ∀ x, x ∈ w → x ≤ 9) :
    ∀ (p : List Nat) (top : Nat) (rc : Nat → Int32), (∀ x, x ∈ p → x < 9 ∧ k ≤ m_sr x) → m_st ws (p ++ w) → top + p.length ≤ 1400 → p.length + w.length ≤ 900 →
      ∃ rc', f_X12_drops (nI k) (nI top) (nI (p.length + w.length)) rc ws = some (nI (top + p.length), nI w.length, rc') ∧ m_sg rc' top (m_ops p) ∧ ∀ j, j < top → rc' j = rc j := by
  have main := fun (p : List Nat) (top : Nat) (rc : Nat → Int32) => g_run (z := fun _ _ _ => none) (b := f_X12_drops_0 (nI k) ws) (ρ := Int32 × Int32 × (Nat → Int32)) (σ := List Nat × Nat × (Nat → Int32)) (fun K y => K (nI y.2.1) (nI (y.1.length + w.length)) y.2.2) (fun y => y.1.length)
    (fun y o => (∀ x, x ∈ y.1 → x < 9 ∧ k ≤ m_sr x) → m_st ws (y.1 ++ w) → y.2.1 + y.1.length ≤ 1400 → y.1.length + w.length ≤ 900 → ∃ rc', o = some (nI (y.2.1 + y.1.length), nI w.length, rc') ∧ m_sg rc' y.2.1 (m_ops y.1) ∧ ∀ j, j < y.2.1 → rc' j = y.2.2 j)
    (by
      rintro K ⟨p, top, rc⟩ ih hp hst htop hlen
      replace hp : ∀ x, x ∈ p → x < 9 ∧ k ≤ m_sr x := hp
      replace hst : m_st ws (p ++ w) := hst
      replace htop : top + p.length ≤ 1400 := htop
      replace hlen : p.length + w.length ≤ 900 := hlen
      show ∃ rc', f_X12_drops_0 (nI k) ws K (nI top) (nI (p.length + w.length)) rc = some (nI (top + p.length), nI w.length, rc') ∧ m_sg rc' top (m_ops p) ∧ ∀ j, j < top → rc' j = rc j
      unfold f_X12_drops_0
      cases p with
      | nil =>
        have fin : ∀ o : Option (Int32 × Int32 × (Nat → Int32)), o = some (nI top, nI (([] : List Nat).length + w.length), rc) → ∃ rc', o = some (nI (top + ([] : List Nat).length), nI w.length, rc') ∧ m_sg rc' top (m_ops []) ∧ ∀ j, j < top → rc' j = rc j := by
          intro o ho
          refine ⟨rc, ?_, trivial, fun _ _ => rfl⟩
          rw [ho, List.length_nil, Nat.zero_add, Nat.add_zero]
        cases w with
        | nil =>
          rw [if_pos (by decide)]
          exact fin _ rfl
        | cons x r =>
          have hx := hw x (List.mem_cons_self ..)
          have e1 : nI (([] : List Nat).length + (x :: r).length) = nI (r.length + 1) := by rw [List.length_nil, Nat.zero_add, List.length_cons]
          have hst1 : ws r.length = nI (m_op x) := hst.1
          have hl1 : ([] : List Nat).length + (r.length + 1) ≤ 900 := hlen
          rw [List.length_nil, Nat.zero_add] at hl1
          rw [e1, if_neg (show ¬ nI (r.length + 1) ≤ 0 from nI_ge (a := 0) (by omega) (by omega)), nI_pred, gs_gd_t (gs_in_nI (by omega) (by decide)), nI_clamp (by omega), hst1, (m_tab x (by omega)).1, gs_b1_s]
          rcases hbk with hb | hb
          · rw [if_pos hb, if_neg n10]
            exact fin _ (by rw [e1])
          · by_cases h9 : x = 9
            · rw [if_pos h9, if_neg n10]
              exact fin _ (by rw [e1])
            · have ht := (m_tab x (by omega)).2 (by omega)
              rw [if_neg h9, if_pos rfl, gs_gd_t (gs_in_nI (by omega) (by decide)), ht.1, gs_b1_s, if_pos (nI_lt hb (by omega))]
              exact fin _ (by rw [e1])
      | cons x r =>
        obtain ⟨hx1, hx2⟩ := hp x (List.mem_cons_self ..)
        have hl1 : r.length + 1 + w.length ≤ 900 := by rw [List.length_cons] at hlen; exact hlen
        have ht1 : top + (r.length + 1) ≤ 1400 := by rw [List.length_cons] at htop; exact htop
        have e1 : nI ((x :: r).length + w.length) = nI (r.length + w.length + 1) := by rw [List.length_cons]; exact congrArg nI (by omega)
        have hst1 : ws (r ++ w).length = nI (m_op x) := hst.1
        rw [List.length_append] at hst1
        have ht := (m_tab x (by omega)).2 hx1
        rw [e1, if_neg (show ¬ nI (r.length + w.length + 1) ≤ 0 from nI_ge (a := 0) (by omega) (by omega)), nI_pred, gs_gd_t (gs_in_nI (by omega) (by decide)), nI_clamp (by omega), hst1, (m_tab x (by omega)).1, gs_b1_s, if_neg (show ¬ x = 9 by omega), if_pos rfl, gs_gd_t (gs_in_nI (by omega) (by decide)), ht.1, gs_b1_s, if_neg (nI_nlt hx2 (by omega)), gs_gd_t (gs_in_nI (by omega) (by decide)), m_puts (by omega), g_b2_s]
        obtain ⟨rc', e, hs, hf⟩ := ih (r, top + 1, upd rc top (nI (m_op x))) (Nat.lt_succ_self _) (fun y hy => hp y (List.mem_cons_of_mem _ hy)) hst.2 (by show top + 1 + r.length ≤ 1400; omega) (by show r.length + w.length ≤ 900; omega)
        replace hs : m_sg rc' (top + 1) (m_ops r) := hs
        replace hf : ∀ j, j < top + 1 → rc' j = upd rc top (nI (m_op x)) j := hf
        refine ⟨rc', ?_, ?_, fun j hj => ?_⟩
        · have e' : K (nI (top + 1)) (nI (r.length + w.length)) (upd rc top (nI (m_op x))) = some (nI (top + 1 + r.length), nI w.length, rc') := e
          rw [e', List.length_cons, show top + 1 + r.length = top + (r.length + 1) by omega]
        · unfold m_ops
          rw [List.map_cons, m_sg, if_neg (by omega), if_neg (by omega)]
          refine ⟨?_, hs⟩
          rw [hf top (by omega), pk_us, ht.2.2.2, show 20000 + x - 20000 = x by omega]
        · rw [hf j (by omega), pk_un (by omega)]) gs_fuel (p, top, rc)
  intro p top rc hp hst htop hlen
  exact main p top rc (by show p.length < gs_fuel; rw [gs_fuel_eq]; omega) hp hst htop hlen
/-- a parenthesis stands open -/
theorem m_opened {ws : Nat → Int32} : ∀ (w : List Nat), (∀ x, x ∈ w → x ≤ 9) → m_st ws w → w.length ≤ 900 → f_X12_isOpened (nI w.length) ws = some (if 9 ∈ w then 1 else 0) := by
  have main := fun (w : List Nat) => g_run (z := fun _ => none) (b := f_X12_isOpened_7 ws) (ρ := Int32) (σ := List Nat) (fun K y => K (nI y.length + (-1))) (fun y => y.length)
    (fun y o => (∀ x, x ∈ y → x ≤ 9) → m_st ws y → y.length ≤ 900 → o = some (if 9 ∈ y then 1 else 0))
    (by
      intro K y ih hw hst hlen
      show f_X12_isOpened_7 ws K (nI y.length + (-1)) = _
      unfold f_X12_isOpened_7
      cases y with
      | nil =>
        rw [if_pos (by decide), if_pos (by decide), if_neg (by simp)]
      | cons x r =>
        have hl : r.length + 1 ≤ 900 := hlen
        have hx := hw x (List.mem_cons_self ..)
        rw [List.length_cons, g_pred, if_neg (nI_pos (by omega)), gs_gd_t (gs_in_nI (by omega) (by decide)), nI_clamp (by omega), hst.1, (m_tab x (by omega)).1, gs_b1_s]
        by_cases h9 : x = 9
        · rw [if_pos h9, if_neg n10, if_neg (nI_pos (by omega)), if_pos (by simp [h9])]
        · rw [if_neg h9, if_pos rfl]
          have go := ih r (Nat.lt_succ_self _) (fun z hz => hw z (List.mem_cons_of_mem _ hz)) hst.2 (by omega)
          have go' : K (nI r.length + (-1)) = some (if 9 ∈ r then 1 else 0) := go
          rw [go']
          by_cases h : 9 ∈ r
          · rw [if_pos h, if_pos (List.mem_cons_of_mem _ h)]
          · rw [if_neg h, if_neg (by simp [h]; omega)]) gs_fuel w
  intro w hw hst hlen
  unfold f_X12_isOpened
  rw [l_sub1]
  exact main w (by show w.length < gs_fuel; rw [gs_fuel_eq]; omega) hw hst hlen
theorem m_split : ∀ (w : List Nat), (∀ x, x ∈ w → x ≤ 9) → ∃ p r, w = p ++ r ∧ (∀ x, x ∈ p → x < 9) ∧ m_bk 0 r
  | [], _ => ⟨[], [], rfl, fun x h => (by cases h), trivial⟩
  | x :: w, h => by
    by_cases h9 : x = 9
    · exact ⟨[], x :: w, rfl, fun y hy => (by cases hy), Or.inl h9⟩
    · obtain ⟨p, r, e, hp, hb⟩ := m_split w (fun y hy => h y (List.mem_cons_of_mem _ hy))
      refine ⟨x :: p, r, by rw [e]; rfl, fun y hy => ?_, hb⟩
      rcases List.mem_cons.mp hy with z | z
      · have := h x (List.mem_cons_self ..)
        omega
      · exact hp y z
