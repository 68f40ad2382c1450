/-! ===== pure rows: one note is forgotten ===== -/
theorem g_b2_s {α α2 β : Type} {a : α} {a2 : α2} {k : α → α2 → Option β} : gs_b2 (some (a, a2)) k = k a a2 := rfl
theorem g_b3_s {α α2 α3 β : Type} {a : α} {a2 : α2} {a3 : α3} {k : α → α2 → α3 → Option β} : gs_b3 (some (a, a2, a3)) k = k a a2 a3 := rfl
theorem g_b4_s {α α2 α3 α4 β : Type} {a : α} {a2 : α2} {a3 : α3} {a4 : α4} {k : α → α2 → α3 → α4 → Option β} : gs_b4 (some (a, a2, a3, a4)) k = k a a2 a3 a4 := rfl
theorem g_b5_s {α α2 α3 α4 α5 β : Type} {a : α} {a2 : α2} {a3 : α3} {a4 : α4} {a5 : α5} {k : α → α2 → α3 → α4 → α5 → Option β} : gs_b5 (some (a, a2, a3, a4, a5)) k = k a a2 a3 a4 a5 := rfl
theorem tc0 : (0 : Int32).toNatClampNeg = 0 := rfl
theorem tc1 : (1 : Int32).toNatClampNeg = 1 := rfl
theorem tc2 : (2 : Int32).toNatClampNeg = 2 := rfl
theorem tc3 : (3 : Int32).toNatClampNeg = 3 := rfl
theorem tc4 : (4 : Int32).toNatClampNeg = 4 := rfl
theorem tc5 : (5 : Int32).toNatClampNeg = 5 := rfl
theorem tc6 : (6 : Int32).toNatClampNeg = 6 := rfl
theorem tc7 : (7 : Int32).toNatClampNeg = 7 := rfl
theorem tc8 : (8 : Int32).toNatClampNeg = 8 := rfl
theorem gd90 {α : Type} (x : Option α) : gs_gd (gs_in 0 9) x = x := gs_gd_t (by decide)
theorem gd91 {α : Type} (x : Option α) : gs_gd (gs_in 1 9) x = x := gs_gd_t (by decide)
theorem gd92 {α : Type} (x : Option α) : gs_gd (gs_in 2 9) x = x := gs_gd_t (by decide)
theorem gd93 {α : Type} (x : Option α) : gs_gd (gs_in 3 9) x = x := gs_gd_t (by decide)
theorem gd94 {α : Type} (x : Option α) : gs_gd (gs_in 4 9) x = x := gs_gd_t (by decide)
theorem gd95 {α : Type} (x : Option α) : gs_gd (gs_in 5 9) x = x := gs_gd_t (by decide)
theorem gd96 {α : Type} (x : Option α) : gs_gd (gs_in 6 9) x = x := gs_gd_t (by decide)
theorem gd97 {α : Type} (x : Option α) : gs_gd (gs_in 7 9) x = x := gs_gd_t (by decide)
theorem gd98 {α : Type} (x : Option α) : gs_gd (gs_in 8 9) x = x := gs_gd_t (by decide)
def g_rule (V : Nat → Bool) (CC : Nat → Int32) (from0 to0 : Int32) (CM : Nat → Int32) (at0 : Int32) (rl : Option (List Nat)) : Prop :=
  match rl with
  | none => from0 = -1 ∧ at0 = -1
  | some c => ∃ i k : Nat, from0 = nI i ∧ to0 = nI (i + c.length) ∧ at0 = nI k ∧ i + c.length ≤ 700 ∧ k + 2 * c.length < 1400 ∧ g_seg CC i c ∧ m_seg CM k c ∧ g_ok c 0 ∧ g_us V c
def g_VF (v : Nat) : Bool := decide (v < 7)
def g_VL (v : Nat) : Bool := v == 1 || v == 3 || v == 6 || v == 7 || v == 8
def g_vm (mem wit note : Int32) (k : Nat) (gaps wth day : Int32) (v : Nat) : Int32 := if v = 0 then mem else if v = 1 then wit else if v = 2 then note else if v = 3 then nI k else if v = 4 then gaps else if v = 5 then wth else day
def g_fg (rl : Option (List Nat)) (mem wit note : Int32) (k : Nat) (gaps wth day : Int32) : Bool :=
  match rl with
  | none => decide (day - day / (mem + 1) * (mem + 1) = 0)
  | some c => decide (¬ (g_ev (g_vm mem wit note k gaps wth day) c []).headD 0 ≤ 0)
def g_oi : Option Nat → Int32
  | none => -1
  | some k => nI k
def g_fo : Int32 → Option Nat → Int32
  | f, none => f
  | f, some _ => f + 1
theorem g_ff_f {g : Nat → Bool} (h : ∀ k, g k = false) : ∀ n i, g_ff g n i = none
  | 0, _ => rfl
  | n + 1, i => by rw [g_ff, h i]; exact g_ff_f h n (i + 1)
/-- class: the place, by memory -/
theorem d_byMem {C L mems : Nat → Int32} {pr pm : Int32} {p s n d m : Nat} (hp : p < 7) (hs : s < 5) (hl : L s = nI n) (hn : n ≤ 8) (hm : f_X1_memoryOf (nI p) pr pm mems = some (nI m)) (hm9 : m ≤ 9) (hd : C 0 = nI d) :
    f_X1_placeByMemory (nI p) (nI s) pr pm L mems C = some (g_oi (g_ff (fun k => !g_nA (C (8 + 5 * p + s)) k && decide (C 0 - C 0 / (nI m + 1) * (nI m + 1) = 0)) n 0)) := by
  unfold f_X1_placeByMemory
  rw [hm, gs_b1_s, nI_1, if_neg (nI_nle (by omega) (by omega)), g_day, gs_b1_s, gs_gd_t (decide_eq_true (nI_ne0 (by omega) (by omega)))]
  by_cases hc : C 0 - C 0 / nI (m + 1) * nI (m + 1) = 0
  · rw [if_pos hc, g_notes hp hs, gs_b1_s]
    have hg : (fun k => !g_nA (C (8 + 5 * p + s)) k && decide (C 0 - C 0 / nI (m + 1) * nI (m + 1) = 0)) = fun k => !g_nA (C (8 + 5 * p + s)) k := by
      funext k
      simp [hc]
    rw [hg]
    have h := g_run (z := fun _ => none) (b := f_X1_placeByMemory_37 (nI s) (C (8 + 5 * p + s)) L) (ρ := Int32) (σ := Nat) (fun K i => K (nI i)) (fun i => n - i) (fun i o => i ≤ n → o = some (g_oi (g_ff (fun k => !g_nA (C (8 + 5 * p + s)) k) (n - i) i)))
      (fun K i ih hi => by
        show f_X1_placeByMemory_37 (nI s) (C (8 + 5 * p + s)) L K (nI i) = _
        unfold f_X1_placeByMemory_37
        rw [gs_gd_t (gs_in_nI hs (by decide)), nI_clamp (by omega), hl]
        rcases Nat.lt_or_ge i n with hl2 | hl2
        · rw [if_neg (nI_ge hl2 (by omega)), g_noteAt _ (by omega), gs_b1_s]
          obtain ⟨k, hk⟩ : ∃ k, n - i = k + 1 := ⟨n - i - 1, by omega⟩
          rw [hk, g_ff]
          by_cases h1 : g_nt (C (8 + 5 * p + s)) i = -1
          · rw [if_pos h1, if_neg (by simp [g_nA, h1]), nI_1, ih (i + 1) (by show n - (i + 1) < n - i; omega) (by omega)]
            rw [show n - (i + 1) = k by omega]
          · rw [if_neg h1, if_pos (by simp [g_nA, h1])]
            rfl
        · have e : i = n := by omega
          subst e
          rw [if_pos (nI_le (Nat.le_refl _) (by omega)), Nat.sub_self]
          rfl) gs_fuel 0 (by show n - 0 < gs_fuel; rw [gs_fuel_eq]; omega) (Nat.zero_le _)
    have h' : gs_it (fun _ => none) (f_X1_placeByMemory_37 (nI s) (C (8 + 5 * p + s)) L) gs_fuel (nI 0) = _ := h
    rw [nI_0] at h'
    rw [h']
    rfl
  · rw [if_neg hc, g_ff_f (fun k => by simp [hc])]
    rfl
theorem d_others {C : Nat → Int32} {p s P : Nat} (hp : p < 7) (hs : s < 5) (hP : P ≤ 7) : f_X1_othersWith (nI p) (nI s) (nI P) C = some (nI (g_ct (fun o => g_H C o s && !(o == p)) P)) := by
  unfold f_X1_othersWith
  refine g_la P (fun i => nI (g_ct (fun o => g_H C o s && !(o == p)) i)) (by omega) rfl (fun K i hi => ?_) (fun K => ?_)
  · unfold f_X1_othersWith_6
    rw [if_neg (nI_ge hi (by omega)), nI_1 i]
    by_cases he : i = p
    · rw [if_pos (by rw [he]), g_ct_f (g := fun o => g_H C o s && !(o == p)) (i := i) (by simp [he])]
    · rw [if_neg (fun q => he ((nI_eq (by omega) (by omega)).mp q)), g_holdsB (by omega) hs, gs_b1_s]
      by_cases h : g_H C i s = true
      · rw [if_pos h, if_neg (by decide), g_ct_t (g := fun o => g_H C o s && !(o == p)) (i := i) (by simp [he, h])]
      · rw [if_neg h, if_pos rfl, g_ct_f (g := fun o => g_H C o s && !(o == p)) (i := i) (by simp [h])]
  · unfold f_X1_othersWith_6
    exact if_pos (nI_le (Nat.le_refl _) (by omega))
theorem g_vals_f {v : Nat → Int32} {mem wit note gaps wth day : Int32} {k : Nat} (h0 : v 0 = mem) (h1 : v 1 = wit) (h4 : v 4 = gaps) (h5 : v 5 = wth) (h6 : v 6 = day) : ∀ n, g_VF n = true → upd (upd v 2 note) 3 (nI k) n = g_vm mem wit note k gaps wth day n := by
  intro n hn
  have hn' : n < 7 := of_decide_eq_true hn
  have : n = 0 ∨ n = 1 ∨ n = 2 ∨ n = 3 ∨ n = 4 ∨ n = 5 ∨ n = 6 := by omega
  rcases this with h | h | h | h | h | h | h <;> subst h
  · exact h0
  · exact h1
  · rfl
  · rfl
  · exact h4
  · exact h5
  · exact h6
/-- class: the place, by a rule -/
theorem d_byRule {C L mems W CC : Nat → Int32} {pr pm fF fT at0 : Int32} {CM : Nat → Int32} {c : List Nat} {p s n P m : Nat} (hp : p < 7) (hs : s < 5) (hP : P ≤ 7) (hl : L s = nI n) (hn : n ≤ 8) (hm : f_X1_memoryOf (nI p) pr pm mems = some (nI m)) (hr : g_rule g_VF CC fF fT CM at0 (some c)) (v t : Nat → Int32) :
    ∃ v' t', f_X1_placeByRule (nI p) (nI s) pr pm (nI P) fF fT L mems W CC v t C = some (g_oi (g_ff (fun k => !g_nA (C (8 + 5 * p + s)) k && g_fg (some c) (nI m) (W p) (g_nt (C (8 + 5 * p + s)) k) k (nI (g_ct (g_nA (C (8 + 5 * p + s))) n)) (nI (g_ct (fun o => g_H C o s && !(o == p)) P)) (C 0)) n 0), v', t') := by
  obtain ⟨i0, k0, hf, ht, -, hi7, -, hsg, -, hok, hus⟩ := hr
  unfold f_X1_placeByRule
  rw [g_notes hp hs, gs_b1_s, hm, gs_b1_s, gd90, gs_gd_t (gs_in_nI hp (by decide)), gd91, g_gapsIn1 _ hs hl hn, gs_b1_s, gd94, d_others hp hs hP, gs_b1_s, gd95, g_day, gs_b1_s, gd96, tc0, tc1, tc4, tc5, tc6, nI_clamp (n := p) (by omega)]
  generalize hx : C (8 + 5 * p + s) = x
  generalize hga : nI (g_ct (g_nA x) n) = ga
  generalize hwt : nI (g_ct (fun o => g_H C o s && !(o == p)) P) = wt
  have h := g_run (z := fun _ _ _ => none) (b := f_X1_placeByRule_73 (nI s) x fF fT L CC) (ρ := Int32 × (Nat → Int32) × (Nat → Int32)) (σ := Nat × (Nat → Int32) × (Nat → Int32)) (fun K y => K (nI y.1) y.2.1 y.2.2) (fun y => n - y.1)
    (fun y o => y.1 ≤ n → y.2.1 0 = nI m → y.2.1 1 = W p → y.2.1 4 = ga → y.2.1 5 = wt → y.2.1 6 = C 0 → ∃ v' t', o = some (g_oi (g_ff (fun k => !g_nA x k && g_fg (some c) (nI m) (W p) (g_nt x k) k ga wt (C 0)) (n - y.1) y.1), v', t'))
    ?_ gs_fuel (0, upd (upd (upd (upd (upd v 0 (nI m)) 1 (W p)) 4 ga) 5 wt) 6 (C 0), t) (by show n - 0 < gs_fuel; rw [gs_fuel_eq]; omega) (Nat.zero_le _) rfl rfl rfl rfl rfl
  · have h' : ∃ v' t', gs_it (fun _ _ _ => none) (f_X1_placeByRule_73 (nI s) x fF fT L CC) gs_fuel (nI 0) (upd (upd (upd (upd (upd v 0 (nI m)) 1 (W p)) 4 ga) 5 wt) 6 (C 0)) t = some (g_oi (g_ff (fun k => !g_nA x k && g_fg (some c) (nI m) (W p) (g_nt x k) k ga wt (C 0)) n 0), v', t') := h
    rw [nI_0] at h'
    exact h'
  · rintro K ⟨i, v, t⟩ ih hi h0 h1 h4 h5 h6
    replace hi : i ≤ n := hi
    show ∃ v' t', f_X1_placeByRule_73 (nI s) x fF fT L CC K (nI i) v t = some (g_oi (g_ff _ (n - i) i), v', t')
    unfold f_X1_placeByRule_73
    rw [gs_gd_t (gs_in_nI hs (by decide)), nI_clamp (by omega), hl]
    rcases Nat.lt_or_ge i n with hl2 | hl2
    · rw [if_neg (nI_ge hl2 (by omega)), g_noteAt _ (by omega), gs_b1_s]
      obtain ⟨k, hk⟩ : ∃ k, n - i = k + 1 := ⟨n - i - 1, by omega⟩
      have hk' : n - (i + 1) = k := by omega
      rw [hk, g_ff, nI_1]
      by_cases hg : g_nt x i = -1
      · rw [if_pos hg, if_neg (by simp [g_nA, hg])]
        have := ih (i + 1, v, t) (by show n - (i + 1) < n - i; omega) (by show i + 1 ≤ n; omega) h0 h1 h4 h5 h6
        rw [← hk']
        exact this
      · rw [if_neg hg, gd92, gd93, tc2, tc3, hf, ht]
        obtain ⟨t', ht'⟩ := r_reckon (vals := upd (upd v 2 (g_nt x i)) 3 (nI i)) hsg hok hi7 t
        rw [ht', g_b2_s, g_ev_cong (g_vals_f h0 h1 h4 h5 h6) [] hus]
        by_cases hr : (g_ev (g_vm (nI m) (W p) (g_nt x i) i ga wt (C 0)) c []).headD 0 ≤ 0
        · have hz : g_fg (some c) (nI m) (W p) (g_nt x i) i ga wt (C 0) = false := decide_eq_false (fun q => q hr)
          rw [if_pos hr, if_neg (by simp [hz])]
          have := ih (i + 1, upd (upd v 2 (g_nt x i)) 3 (nI i), t') (by show n - (i + 1) < n - i; omega) (by show i + 1 ≤ n; omega) h0 h1 h4 h5 h6
          rw [← hk']
          exact this
        · have hz : g_fg (some c) (nI m) (W p) (g_nt x i) i ga wt (C 0) = true := decide_eq_true hr
          rw [if_neg hr, if_pos (by simp [g_nA, hg, hz])]
          exact ⟨_, _, rfl⟩
    · have e : i = n := by omega
      subst e
      rw [if_pos (nI_le (Nat.le_refl _) (by omega)), Nat.sub_self]
      exact ⟨v, t, rfl⟩
def g_cf (C : Nat → Int32) (p s : Nat) : Option Nat → Nat → Int32
  | none => C
  | some k => upd C (8 + 5 * p + s) (g_wn (C (8 + 5 * p + s)) k (-1))
def g_oC (rl : Option (List Nat)) (mem : Int32) (W : Nat → Int32) (P n : Nat) (C : Nat → Int32) (p s : Nat) : Option Nat :=
  g_ff (fun k => !g_nA (C (8 + 5 * p + s)) k && g_fg rl mem (W p) (g_nt (C (8 + 5 * p + s)) k) k (nI (g_ct (g_nA (C (8 + 5 * p + s))) n)) (nI (g_ct (fun o => g_H C o s && !(o == p)) P)) (C 0)) n 0
/-- class: one note of one song is forgotten -/
theorem d_forgetC {C L mems W CC CM : Nat → Int32} {pr pm fF fT at0 fo : Int32} {rl : Option (List Nat)} {p s n P m d : Nat} (hp : p < 7) (hs : s < 5) (hP : P ≤ 7) (hl : L s = nI n) (hn : n ≤ 8) (hm : f_X1_memoryOf (nI p) pr pm mems = some (nI m)) (hm9 : m ≤ 9) (hd : C 0 = nI d) (hr : g_rule g_VF CC fF fT CM at0 rl) (v t : Nat → Int32) :
    ∃ v' t', f_X1_forgetOneNote (nI p) (nI s) fo pr pm (nI P) fF fT L mems W CC v t C = some (g_fo fo (g_oC rl (nI m) W P n C p s), v', t', g_cf C p s (g_oC rl (nI m) W P n C p s)) := by
  have key : ∀ (o : Option Nat) (v t : Nat → Int32), (∀ k, o = some k → k < 8) → f_X1_forgetOneNote_28 (g_oi o) (nI p) (nI s) fo v t C = some (g_fo fo o, v, t, g_cf C p s o) := by
    intro o v t ho
    unfold f_X1_forgetOneNote_28
    cases o with
    | none => exact if_pos rfl
    | some k =>
      have hk := ho k rfl
      show (if nI k = -1 then _ else _) = _
      rw [if_neg (g_m1 (by omega)), g_notes hp hs, gs_b1_s]
      show gs_b1 (f_X11_withNote _ (nI k) (-1)) _ = _
      rw [g_withNote, gs_b1_s, g_setNotes hp hs, gs_b1_s]
      rfl
  have hlt : ∀ k, g_oC rl (nI m) W P n C p s = some k → k < 8 := fun k hk => by
    have := (g_ff_some n 0 hk).2.1
    omega
  unfold f_X1_forgetOneNote
  cases rl with
  | none =>
    rw [if_pos hr.1, d_byMem hp hs hl hn hm hm9 hd, gs_b1_s]
    exact ⟨v, t, key _ v t hlt⟩
  | some c =>
    have hne : ¬ fF = -1 := by
      obtain ⟨i0, k0, hf, -, -, hi7, -⟩ := hr
      rw [hf]
      exact g_m1 (by omega)
    obtain ⟨v', t', h⟩ := d_byRule (W := W) hp hs hP hl hn hm hr v t
    rw [if_neg hne, h, g_b3_s]
    exact ⟨v', t', key _ v' t' hlt⟩
theorem g_mk_one (p : Nat) : ∀ n, g_mk (fun o => o == p) n = if p < n then 2 ^ p else 0
  | 0 => rfl
  | n + 1 => by
    rw [g_mk, g_mk_one p n]
    by_cases h : n = p
    · subst h
      rw [if_neg (Nat.lt_irrefl _), if_pos (by simp), if_pos (Nat.lt_succ_self _), Nat.zero_add]
    · rw [if_neg (c := (n == p) = true) (by simp [h]), Nat.add_zero]
      by_cases h2 : p < n
      · rw [if_pos h2, if_pos (by omega)]
      · rw [if_neg h2, if_neg (by omega)]
theorem g_mk_dif (g h : Nat → Bool) : ∀ n, n ≤ 7 → nI (g_mk g n) &&& (nI (g_mk h n) ^^^ (-1)) = nI (g_mk (fun k => g k && !h k) n) := by
  intro n hn
  have l1 : g_mk g n < 128 := Nat.lt_of_lt_of_le (g_mk_lt g n) (Nat.pow_le_pow_right (by decide) hn)
  have l2 : g_mk h n < 128 := Nat.lt_of_lt_of_le (g_mk_lt h n) (Nat.pow_le_pow_right (by decide) hn)
  rw [g_andnot _ l1 _ l2]
  refine congrArg nI ?_
  apply Nat.eq_of_testBit_eq
  intro i
  rw [Nat.testBit_and, g_mk_bit, g_mk_bit]
  rcases Nat.lt_or_ge i n with hi | hi
  · have e : (127 - g_mk h n).testBit i = !(g_mk h n).testBit i := by
      have := Nat.testBit_two_pow_sub_succ (show g_mk h n < 2 ^ 7 from l2) i
      rw [show 127 - g_mk h n = 2 ^ 7 - (g_mk h n + 1) by omega, this]
      simp [show i < 7 by omega]
    rw [e, g_mk_bit]
    simp [hi]
  · simp [show ¬ i < n by omega]
theorem m_others (g : Nat → Bool) {p P : Nat} (hp : p < P) (hP : P ≤ 7) : f_X12_bits (nI (g_mk g P) &&& ((1 <<< (nI p &&& 31)) ^^^ (-1))) = some (nI (g_ct (fun o => g o && !(o == p)) P)) := by
  have e : (1 : Int32) <<< (nI p &&& 31) = nI (g_mk (fun o => o == p) P) := by rw [g_1shl p (by omega), g_mk_one, if_pos hp]
  rw [e, g_mk_dif _ _ P hP, g_bits _ (by omega)]
theorem m_vals_f {v : Nat → Int32} {mem wit note gaps wth day : Int32} {k : Nat} : ∀ n, g_VF n = true → (fun w => upd (upd (upd (upd (upd (upd (upd v 0 mem) 1 note) 2 gaps) 3 wth) 4 wit) 5 (nI k)) 6 day (g_mv w)) n = g_vm mem wit note k gaps wth day n := by
  intro n hn
  have hn' : n < 7 := of_decide_eq_true hn
  have : n = 0 ∨ n = 1 ∨ n = 2 ∨ n = 3 ∨ n = 4 ∨ n = 5 ∨ n = 6 := by omega
  rcases this with h | h | h | h | h | h | h <;> subst h <;> rfl
/-- model: is this note forgotten -/
theorem m_forgets {M ML MW CM CC : Nat → Int32} {fA fF fT : Int32} {rl : Option (List Nat)} {b p s k P n m : Nat} (hb : b ≤ 372) (hp : p < P) (hP : P ≤ 7) (hs : s < 5) (hl : ML s = nI n) (hn : n ≤ 8) (hk : k < 8) (hm : M (b + 365 + p) = nI m) (hm9 : m ≤ 9) (hr : g_rule g_VF CC fF fT CM fA rl) (t q : Nat → Int32) :
    ∃ t' q', f_X12_forgets (nI b) (nI p) (nI s) (nI k) (nI P) fA ML MW CM M t q = some (if g_fg rl (nI m) (MW p) (M (b + (1 + 40 * p + 8 * s + k))) k (nI (g_ct (m_nA M b p s) n)) (nI (g_ct (fun o => m_H M b o s && !(o == p)) P)) (M b) = true then 1 else 0, t', q') := by
  have e1 : (nI b + 365) + nI p = nI (b + 365 + p) := by
    show (nI b + nI 365) + nI p = _
    rw [nI_add, nI_add]
  unfold f_X12_forgets
  rw [e1, g_add0, nI_clamp (n := b) (by omega), nI_clamp (n := b + 365 + p) (by omega), hm, gs_gd_t (gs_in_nI (n := 744) (i := b) (by omega) (by decide)), gs_gd_t (gs_in_nI (n := 744) (i := b + 365 + p) (by omega) (by decide))]
  cases rl with
  | none =>
    rw [if_pos hr.2, nI_1, gs_gd_t (decide_eq_true (nI_ne0 (by omega) (by omega)))]
    refine ⟨t, q, ?_⟩
    by_cases h : M b - M b / nI (m + 1) * nI (m + 1) = 0
    · rw [if_pos h, if_pos (by simp [g_fg, nI_1, h])]
    · rw [if_neg h, if_neg (by simp [g_fg, nI_1, h])]
  | some c =>
    obtain ⟨i0, k0, -, -, hA, -, hk14, -, hsg, hok, hus⟩ := hr
    rw [if_neg (by rw [hA]; exact g_m1 (by omega)), gs_gd_t (gs_in_nI (n := 744) (i := b + 365 + p) (by omega) (by decide)), gd90, m_noteAt, gs_b1_s, nI_add, gs_gd_t (gs_in_nI (by omega) (by decide)), gd91, m_gapsIn hb (by omega) hs hl hn, gs_b1_s, g_bits _ hn, gs_b1_s, gd92, m_whoHave hb hs hP, gs_b1_s, m_others _ hp hP, gs_b1_s, gd93, gs_gd_t (gs_in_nI (by omega) (by decide)), gd94, gd95, gs_gd_t (gs_in_nI (by omega) (by decide)), gd96, tc0, tc1, tc2, tc3, tc4, tc5, tc6, nI_clamp (n := p) (by omega), nI_clamp (n := b + (1 + 40 * p + 8 * s + k)) (by omega), hA]
    obtain ⟨q', hq'⟩ := r_reckons (told := upd (upd (upd (upd (upd (upd (upd t 0 (nI m)) 1 (M (b + (1 + 40 * p + 8 * s + k)))) 2 (nI (g_ct (m_nA M b p s) n))) 3 (nI (g_ct (fun o => m_H M b o s && !(o == p)) P))) 4 (MW p)) 5 (nI k)) 6 (M b)) hsg hok hk14 q
    rw [hq', g_b2_s, g_ev_cong m_vals_f [] hus]
    by_cases h : (g_ev (g_vm (nI m) (MW p) (M (b + (1 + 40 * p + 8 * s + k))) k (nI (g_ct (m_nA M b p s) n)) (nI (g_ct (fun o => m_H M b o s && !(o == p)) P)) (M b)) c []).headD 0 ≤ 0
    · have hz : g_fg (some c) (nI m) (MW p) (M (b + (1 + 40 * p + 8 * s + k))) k (nI (g_ct (m_nA M b p s) n)) (nI (g_ct (fun o => m_H M b o s && !(o == p)) P)) (M b) = false := decide_eq_false (fun q => q h)
      rw [if_pos h, hz, if_neg Bool.false_ne_true]
      exact ⟨_, _, rfl⟩
    · have hz : g_fg (some c) (nI m) (MW p) (M (b + (1 + 40 * p + 8 * s + k))) k (nI (g_ct (m_nA M b p s) n)) (nI (g_ct (fun o => m_H M b o s && !(o == p)) P)) (M b) = true := decide_eq_true h
      rw [if_neg h, hz, if_pos rfl]
      exact ⟨_, _, rfl⟩
theorem m_givesUp {M : Nat → Int32} {b p s : Nat} (hb : b ≤ 372) (hp : p < 7) (hs : s < 5) : f_X12_givesUp (nI b) (nI p) (nI s) M = some (upd (g_cpy (fun _ => -1) M (b + (1 + 40 * p + 8 * s)) 8) (b + 281 + 5 * p + s) 0) := by
  unfold f_X12_givesUp
  refine g_lb 8 (fun i => g_cpy (fun _ => -1) M (b + (1 + 40 * p + 8 * s)) i) (by omega) (g_cpy_0 _ _ _) (fun K i hi => ?_) (fun K => ?_)
  · unfold f_X12_givesUp_3
    rw [if_neg (show ¬ (8 : Int32) ≤ nI i from nI_ge (b := 8) hi (by decide)), m_noteAt, gs_b1_s, nI_add, gs_gd_t (gs_in_nI (by omega) (by decide)), nI_clamp (by omega), nI_1, show b + (1 + 40 * p + 8 * s + i) = b + (1 + 40 * p + 8 * s) + i by omega]
    rw [g_cpy_s (fun _ => -1)]
  · unfold f_X12_givesUp_3
    rw [if_pos (show (8 : Int32) ≤ nI 8 from nI_le (a := 8) (Nat.le_refl _) (by decide))]
    show f_X12_givesUp_31 (nI b) (nI p) (nI s) (g_cpy (fun _ => -1) M (b + (1 + 40 * p + 8 * s)) 8) = _
    unfold f_X12_givesUp_31
    rw [m_ixH, gs_gd_t (gs_in_nI (by omega) (by decide)), nI_clamp (by omega)]
def g_mf (M : Nat → Int32) (b p s n : Nat) : Option Nat → Nat → Int32
  | none => M
  | some k => if g_ct (m_nA (upd M (b + (1 + 40 * p + 8 * s + k)) (-1)) b p s) n = n then upd (g_cpy (fun _ => -1) (upd M (b + (1 + 40 * p + 8 * s + k)) (-1)) (b + (1 + 40 * p + 8 * s)) 8) (b + 281 + 5 * p + s) 0 else upd M (b + (1 + 40 * p + 8 * s + k)) (-1)
theorem g_mf_s (M : Nat → Int32) (b p s n k : Nat) : g_mf M b p s n (some k) = if g_ct (m_nA (upd M (b + (1 + 40 * p + 8 * s + k)) (-1)) b p s) n = n then upd (g_cpy (fun _ => -1) (upd M (b + (1 + 40 * p + 8 * s + k)) (-1)) (b + (1 + 40 * p + 8 * s)) 8) (b + 281 + 5 * p + s) 0 else upd M (b + (1 + 40 * p + 8 * s + k)) (-1) := rfl
def g_oM (rl : Option (List Nat)) (MW : Nat → Int32) (P n : Nat) (M : Nat → Int32) (b p s : Nat) : Option Nat :=
  g_ff (fun k => !m_nA M b p s k && g_fg rl (M (b + 365 + p)) (MW p) (M (b + (1 + 40 * p + 8 * s + k))) k (nI (g_ct (m_nA M b p s) n)) (nI (g_ct (fun o => m_H M b o s && !(o == p)) P)) (M b)) n 0
/-- model: one note of one song is forgotten -/
theorem m_songGoes {M ML MW CM CC : Nat → Int32} {fA fF fT fo : Int32} {rl : Option (List Nat)} {b p s P n m : Nat} (hb : b ≤ 372) (hp : p < P) (hP : P ≤ 7) (hs : s < 5) (hl : ML s = nI n) (hn : n ≤ 8) (hm : M (b + 365 + p) = nI m) (hm9 : m ≤ 9) (hr : g_rule g_VF CC fF fT CM fA rl) (t q : Nat → Int32) :
    ∃ t' q', f_X12_songGoes (nI b) (nI p) (nI s) (nI P) fA fo ML MW CM M t q = some (g_fo fo (g_oM rl MW P n M b p s), g_mf M b p s n (g_oM rl MW P n M b p s), t', q') := by
  have key : ∀ (k : Nat) (t q : Nat → Int32), k < n → f_X12_songGoes_51 (nI b) (nI p) (nI s) (nI (b + (1 + 40 * p + 8 * s + k))) fo ML M t q = some (fo + 1, g_mf M b p s n (some k), t, q) := by
    intro k t q hk
    unfold f_X12_songGoes_51
    rw [gs_gd_t (gs_in_nI (by omega) (by decide)), nI_clamp (by omega), m_gapsIn hb (by omega) hs hl hn, gs_b1_s, g_bits _ hn, gs_b1_s, gs_gd_t (gs_in_nI hs (by decide)), nI_clamp (by omega), hl]
    have hc := g_ct_le (m_nA (upd M (b + (1 + 40 * p + 8 * s + k)) (-1)) b p s) n
    rw [g_mf_s]
    by_cases h : g_ct (m_nA (upd M (b + (1 + 40 * p + 8 * s + k)) (-1)) b p s) n = n
    · rw [if_pos (by rw [h]), m_givesUp hb (by omega) hs, gs_b1_s, if_pos h]
    · rw [if_neg (fun e => h ((nI_eq (by omega) (by omega)).mp e)), if_neg h]
  unfold f_X12_songGoes g_oM
  rw [hm]
  have h := g_run (z := fun _ _ _ => none) (b := f_X12_songGoes_3 (nI b) (nI p) (nI s) (nI P) fA fo ML MW CM M (fun (x5' : Int32) (r_t_told' : Nat → Int32) (r_t_pile' : Nat → Int32) => f_X12_songGoes_51 (nI b) (nI p) (nI s) x5' fo ML M r_t_told' r_t_pile')) (ρ := Int32 × (Nat → Int32) × (Nat → Int32) × (Nat → Int32)) (σ := Nat × (Nat → Int32) × (Nat → Int32)) (fun K y => K (nI y.1) y.2.1 y.2.2) (fun y => n - y.1)
    (fun y o => y.1 ≤ n → ∃ t' q', o = some (g_fo fo (g_ff (fun k => !m_nA M b p s k && g_fg rl (nI m) (MW p) (M (b + (1 + 40 * p + 8 * s + k))) k (nI (g_ct (m_nA M b p s) n)) (nI (g_ct (fun o => m_H M b o s && !(o == p)) P)) (M b)) (n - y.1) y.1), g_mf M b p s n (g_ff (fun k => !m_nA M b p s k && g_fg rl (nI m) (MW p) (M (b + (1 + 40 * p + 8 * s + k))) k (nI (g_ct (m_nA M b p s) n)) (nI (g_ct (fun o => m_H M b o s && !(o == p)) P)) (M b)) (n - y.1) y.1), t', q'))
    ?_ gs_fuel (0, t, q) (by show n - 0 < gs_fuel; rw [gs_fuel_eq]; omega) (Nat.zero_le _)
  · obtain ⟨t', q', h'⟩ := h
    have h'' : gs_it (fun _ _ _ => none) (f_X12_songGoes_3 (nI b) (nI p) (nI s) (nI P) fA fo ML MW CM M (fun (x5' : Int32) (r_t_told' : Nat → Int32) (r_t_pile' : Nat → Int32) => f_X12_songGoes_51 (nI b) (nI p) (nI s) x5' fo ML M r_t_told' r_t_pile')) gs_fuel (nI 0) t q = _ := h'
    rw [nI_0] at h''
    exact ⟨t', q', h''⟩
  · rintro K ⟨i, t, q⟩ ih hi
    replace hi : i ≤ n := hi
    show ∃ t' q', f_X12_songGoes_3 (nI b) (nI p) (nI s) (nI P) fA fo ML MW CM M _ K (nI i) t q = some (g_fo fo (g_ff _ (n - i) i), g_mf M b p s n (g_ff _ (n - i) i), t', q')
    unfold f_X12_songGoes_3
    rw [gs_gd_t (gs_in_nI hs (by decide)), nI_clamp (by omega), hl]
    rcases Nat.lt_or_ge i n with hl2 | hl2
    · rw [if_neg (nI_ge hl2 (by omega)), m_noteAt, gs_b1_s, nI_add, gs_gd_t (gs_in_nI (by omega) (by decide)), nI_clamp (by omega), nI_1]
      obtain ⟨k, hk⟩ : ∃ k, n - i = k + 1 := ⟨n - i - 1, by omega⟩
      have hk' : n - (i + 1) = k := by omega
      rw [hk, g_ff]
      by_cases hg : M (b + (1 + 40 * p + 8 * s + i)) = -1
      · rw [if_pos hg, if_neg (by simp [m_nA, hg]), ← hk']
        exact ih (i + 1, t, q) (by show n - (i + 1) < n - i; omega) (by show i + 1 ≤ n; omega)
      · obtain ⟨t', q', hfg⟩ := m_forgets (MW := MW) (k := i) hb hp hP hs hl hn (by omega) hm hm9 hr t q
        rw [if_neg hg, hfg, g_b3_s]
        by_cases hr2 : g_fg rl (nI m) (MW p) (M (b + (1 + 40 * p + 8 * s + i))) i (nI (g_ct (m_nA M b p s) n)) (nI (g_ct (fun o => m_H M b o s && !(o == p)) P)) (M b) = true
        · rw [if_pos hr2, if_neg (by decide), if_pos (by simp [m_nA, hg, hr2])]
          exact ⟨t', q', key i t' q' hl2⟩
        · rw [if_neg hr2, if_pos rfl, if_neg (by simp [hr2]), ← hk']
          exact ih (i + 1, t', q') (by show n - (i + 1) < n - i; omega) (by show i + 1 ≤ n; omega)
    · have e : i = n := by omega
      subst e
      rw [if_pos (nI_le (Nat.le_refl _) (by omega)), Nat.sub_self]
      exact ⟨t, q, rfl⟩
