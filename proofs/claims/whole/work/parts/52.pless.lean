/-! ===== pure rows: lessons for all, what is best ===== -/
def l_mx (ok : Nat → Bool) (f : Nat → Nat) (v0 : Nat) : Nat → Nat
  | 0 => v0
  | i + 1 => if ok i = true then max (l_mx ok f v0 i) (f i) else l_mx ok f v0 i
def l_ok (can : Nat → Nat → Bool) (q u t : Nat) : Bool := can q t && !u.testBit t
/-- the best that so many from q on can do, when u are taken -/
def l_mo (P : Nat) (can : Nat → Nat → Bool) (lk : Nat → Nat → Nat) : Nat → Nat → Nat → Nat
  | 0, _, _ => 0
  | r + 1, q, u => l_mx (l_ok can q u) (fun t => 1000 + lk q t + l_mo P can lk r (q + 1) (u ||| 2 ^ t)) (l_mo P can lk r (q + 1) u) P
def l_f (P : Nat) (can : Nat → Nat → Bool) (lk : Nat → Nat → Nat) (r q u t : Nat) : Nat := 1000 + lk q t + l_mo P can lk r (q + 1) (u ||| 2 ^ t)
def l_ch (P : Nat) (can : Nat → Nat → Bool) (lk : Nat → Nat → Nat) (r q u : Nat) : Option Nat := g_ff (fun t => l_ok can q u t && (l_f P can lk r q u t == l_mo P can lk (r + 1) q u)) P 0
def l_gr (P : Nat) (can : Nat → Nat → Bool) (lk : Nat → Nat → Nat) : Nat → Nat → Nat → (Nat → Int32) → Nat → Int32
  | 0, _, _, way => way
  | r + 1, q, u, way => match l_ch P can lk r q u with
    | none => l_gr P can lk r (q + 1) u (upd way q (-1))
    | some t => l_gr P can lk r (q + 1) (u ||| 2 ^ t) (upd way q (nI t))
/-- the first of the greatest -/
def l_fm (ok : Nat → Bool) (f : Nat → Nat) : Nat → Option (Nat × Nat)
  | 0 => none
  | i + 1 => if ok i = true then (match l_fm ok f i with
    | none => some (f i, i)
    | some x => if x.1 < f i then some (f i, i) else some x) else l_fm ok f i
def l_T (T pre : Nat) : Option (Nat × Nat) → Nat
  | none => T
  | some x => if T < pre + x.1 then pre + x.1 else T
def l_B (T pre : Nat) (row : Nat → Nat → Int32) (best : Nat → Int32) : Option (Nat × Nat) → Nat → Int32
  | none => best
  | some x => if T < pre + x.1 then row x.2 else best
theorem l_mo_s (P : Nat) (can : Nat → Nat → Bool) (lk : Nat → Nat → Nat) (r q u : Nat) : l_mo P can lk (r + 1) q u = l_mx (l_ok can q u) (l_f P can lk r q u) (l_mo P can lk r (q + 1) u) P := rfl
theorem l_fm_f {ok : Nat → Bool} {f : Nat → Nat} {i : Nat} (h : ok i = false) : l_fm ok f (i + 1) = l_fm ok f i := by
  rw [l_fm, if_neg (by rw [h]; exact Bool.false_ne_true)]
theorem l_fm_t {ok : Nat → Bool} {f : Nat → Nat} {i : Nat} (h : ok i = true) : l_fm ok f (i + 1) = (match l_fm ok f i with | none => some (f i, i) | some x => if x.1 < f i then some (f i, i) else some x) := by
  rw [l_fm, if_pos h]
theorem l_fm_spec (ok : Nat → Bool) (f : Nat → Nat) : ∀ i, (∀ x, l_fm ok f i = some x → x.2 < i ∧ ok x.2 = true ∧ f x.2 = x.1 ∧ (∀ t, t < i → ok t = true → f t ≤ x.1) ∧ (∀ t, t < x.2 → ok t = true → f t < x.1)) ∧ (l_fm ok f i = none → ∀ t, t < i → ok t = false)
  | 0 => ⟨fun x h => (by cases h), fun _ t h => absurd h (Nat.not_lt_zero _)⟩
  | i + 1 => by
    obtain ⟨h1, h2⟩ := l_fm_spec ok f i
    cases hi : ok i with
    | false =>
      rw [l_fm_f hi]
      refine ⟨fun x hx => ?_, fun hn t ht => ?_⟩
      · obtain ⟨a, b, c, d, e⟩ := h1 x hx
        refine ⟨by omega, b, c, fun t ht ho => ?_, e⟩
        rcases Nat.lt_or_ge t i with hl | hl
        · exact d t hl ho
        · have : t = i := by omega
          subst this
          rw [hi] at ho
          cases ho
      · rcases Nat.lt_or_ge t i with hl | hl
        · exact h2 hn t hl
        · have : t = i := by omega
          subst this
          exact hi
    | true =>
      rw [l_fm_t hi]
      cases hf : l_fm ok f i with
      | none =>
        refine ⟨fun x hx => ?_, fun hn => (by cases hn)⟩
        cases hx
        refine ⟨Nat.lt_succ_self _, hi, rfl, fun t ht ho => ?_, fun t ht ho => ?_⟩
        · rcases Nat.lt_or_ge t i with hl | hl
          · rw [h2 hf t hl] at ho
            cases ho
          · have : t = i := by omega
            subst this
            exact Nat.le_refl _
        · rw [h2 hf t ht] at ho
          cases ho
      | some y =>
        obtain ⟨a, b, c, d, e⟩ := h1 y hf
        try dsimp only
        by_cases hlt : y.1 < f i
        · rw [if_pos hlt]
          refine ⟨fun x hx => ?_, fun hn => (by cases hn)⟩
          cases hx
          refine ⟨Nat.lt_succ_self _, hi, rfl, fun t ht ho => ?_, fun t ht ho => ?_⟩
          · rcases Nat.lt_or_ge t i with hl | hl
            · have := d t hl ho
              show f t ≤ f i
              omega
            · have : t = i := by omega
              subst this
              exact Nat.le_refl _
          · have := d t ht ho
            show f t < f i
            omega
        · rw [if_neg hlt]
          refine ⟨fun x hx => ?_, fun hn => (by cases hn)⟩
          cases hx
          refine ⟨by omega, b, c, fun t ht ho => ?_, e⟩
          rcases Nat.lt_or_ge t i with hl | hl
          · exact d t hl ho
          · have : t = i := by omega
            subst this
            omega
theorem l_mx_none {ok : Nat → Bool} {f : Nat → Nat} (v0 : Nat) : ∀ i, (∀ t, t < i → ok t = false) → l_mx ok f v0 i = v0
  | 0, _ => rfl
  | i + 1, h => by
    rw [l_mx, if_neg (by rw [h i (by omega)]; exact Bool.false_ne_true)]
    exact l_mx_none v0 i (fun t ht => h t (by omega))
theorem l_mx_ge {ok : Nat → Bool} {f : Nat → Nat} (v0 : Nat) : ∀ i, v0 ≤ l_mx ok f v0 i ∧ ∀ t, t < i → ok t = true → f t ≤ l_mx ok f v0 i
  | 0 => ⟨Nat.le_refl _, fun t ht => absurd ht (Nat.not_lt_zero _)⟩
  | i + 1 => by
    obtain ⟨h1, h2⟩ := l_mx_ge (ok := ok) (f := f) v0 i
    rw [l_mx]
    by_cases hi : ok i = true
    · rw [if_pos hi]
      refine ⟨Nat.le_trans h1 (Nat.le_max_left _ _), fun t ht ho => ?_⟩
      rcases Nat.lt_or_ge t i with hl | hl
      · exact Nat.le_trans (h2 t hl ho) (Nat.le_max_left _ _)
      · have : t = i := by omega
        subst this
        exact Nat.le_max_right _ _
    · rw [if_neg hi]
      refine ⟨h1, fun t ht ho => ?_⟩
      rcases Nat.lt_or_ge t i with hl | hl
      · exact h2 t hl ho
      · have : t = i := by omega
        subst this
        exact absurd ho hi
theorem l_mx_le {ok : Nat → Bool} {f : Nat → Nat} {v0 m : Nat} (h0 : v0 ≤ m) : ∀ i, (∀ t, t < i → ok t = true → f t ≤ m) → l_mx ok f v0 i ≤ m
  | 0, _ => h0
  | i + 1, h => by
    have := l_mx_le h0 i (fun t ht ho => h t (by omega) ho)
    rw [l_mx]
    by_cases hi : ok i = true
    · rw [if_pos hi]
      exact Nat.max_le.mpr ⟨this, h i (by omega) hi⟩
    · rw [if_neg hi]
      exact this
theorem l_mx_some {ok : Nat → Bool} {f : Nat → Nat} {v0 i : Nat} {x : Nat × Nat} (h : l_fm ok f i = some x) : l_mx ok f v0 i = max v0 x.1 := by
  obtain ⟨a, b, c, d, e⟩ := (l_fm_spec ok f i).1 x h
  have h1 := l_mx_ge (ok := ok) (f := f) v0 i
  have h2 := h1.2 x.2 a b
  rw [c] at h2
  have h3 : l_mx ok f v0 i ≤ max v0 x.1 := l_mx_le (Nat.le_max_left _ _) i (fun t ht ho => Nat.le_trans (d t ht ho) (Nat.le_max_right _ _))
  have h4 := Nat.max_le.mpr ⟨h1.1, h2⟩
  omega
theorem l_mo_le {P : Nat} {can : Nat → Nat → Bool} {lk : Nat → Nat → Nat} (h8 : ∀ p t, lk p t ≤ 8) : ∀ r q u, l_mo P can lk r q u ≤ 1008 * r
  | 0, _, _ => Nat.zero_le _
  | r + 1, q, u => by
    rw [l_mo_s]
    refine l_mx_le ?_ P (fun t _ _ => ?_)
    · have := l_mo_le (can := can) (P := P) h8 r (q + 1) u
      omega
    · have h1 := l_mo_le (can := can) (P := P) h8 r (q + 1) (u ||| 2 ^ t)
      have h2 := h8 q t
      unfold l_f
      omega
theorem g_ff_at {g : Nat → Bool} : ∀ (n i k : Nat), i ≤ k → k < i + n → g k = true → (∀ j, i ≤ j → j < k → g j = false) → g_ff g n i = some k
  | 0, i, k, h1, h2, _, _ => by omega
  | n + 1, i, k, h1, h2, h3, h4 => by
    rw [g_ff]
    rcases Nat.lt_or_ge i k with hl | hl
    · rw [if_neg (by rw [h4 i (Nat.le_refl _) hl]; exact Bool.false_ne_true)]
      exact g_ff_at n (i + 1) k (by omega) (by omega) h3 (fun j hj => h4 j (by omega))
    · have e : i = k := by omega
      subst e
      rw [if_pos h3]
theorem g_ff_no {g : Nat → Bool} {n : Nat} (h : ∀ k, k < n → g k = false) : g_ff g n 0 = none := g_ff_ct.mpr (g_ct_0.mpr h)
section LCH
variable {P : Nat} {can : Nat → Nat → Bool} {lk : Nat → Nat → Nat}
theorem l_ch_none {r q u : Nat} (h : l_fm (l_ok can q u) (l_f P can lk r q u) P = none) : l_ch P can lk r q u = none ∧ l_mo P can lk (r + 1) q u = l_mo P can lk r (q + 1) u := by
  have h2 := (l_fm_spec _ _ P).2 h
  refine ⟨g_ff_no (fun k hk => ?_), ?_⟩
  · rw [h2 k hk]; rfl
  · rw [l_mo_s, l_mx_none _ _ h2]
theorem l_ch_lt {r q u : Nat} {x : Nat × Nat} (h : l_fm (l_ok can q u) (l_f P can lk r q u) P = some x) (hx : x.1 < l_mo P can lk r (q + 1) u) : l_ch P can lk r q u = none ∧ l_mo P can lk (r + 1) q u = l_mo P can lk r (q + 1) u := by
  obtain ⟨a, b, c, d, e⟩ := (l_fm_spec _ _ P).1 x h
  have hm : l_mo P can lk (r + 1) q u = l_mo P can lk r (q + 1) u := by
    rw [l_mo_s, l_mx_some h]
    exact Nat.max_eq_left (Nat.le_of_lt hx)
  refine ⟨g_ff_no (fun k hk => ?_), hm⟩
  rw [hm]
  cases ho : l_ok can q u k with
  | false => rfl
  | true =>
    have := d k hk ho
    rw [Bool.true_and]
    have : ¬ l_f P can lk r q u k = l_mo P can lk r (q + 1) u := by omega
    simp [this]
theorem l_ch_some {r q u : Nat} {x : Nat × Nat} (h : l_fm (l_ok can q u) (l_f P can lk r q u) P = some x) (hx : l_mo P can lk r (q + 1) u ≤ x.1) : l_ch P can lk r q u = some x.2 ∧ l_mo P can lk (r + 1) q u = x.1 := by
  obtain ⟨a, b, c, d, e⟩ := (l_fm_spec _ _ P).1 x h
  have hm : l_mo P can lk (r + 1) q u = x.1 := by
    rw [l_mo_s, l_mx_some h]
    exact Nat.max_eq_right hx
  refine ⟨g_ff_at P 0 x.2 (Nat.zero_le _) (by omega) ?_ (fun j _ hj => ?_), hm⟩
  · rw [b, hm, c]
    simp
  · rw [hm]
    cases ho : l_ok can q u j with
    | false => rfl
    | true =>
      have := e j hj ho
      have : ¬ l_f P can lk r q u j = x.1 := by omega
      simp [this]
theorem l_gr_none {r q u : Nat} {way : Nat → Int32} (h : l_ch P can lk r q u = none) : l_gr P can lk (r + 1) q u way = l_gr P can lk r (q + 1) u (upd way q (-1)) := by
  rw [l_gr, h]
theorem l_gr_some {r q u t : Nat} {way : Nat → Int32} (h : l_ch P can lk r q u = some t) : l_gr P can lk (r + 1) q u way = l_gr P can lk r (q + 1) (u ||| 2 ^ t) (upd way q (nI t)) := by
  rw [l_gr, h]
theorem l_gr_cong : ∀ (r q u : Nat) (w1 w2 : Nat → Int32), (∀ j, (j < q ∨ q + r ≤ j) → w1 j = w2 j) → ∀ j, l_gr P can lk r q u w1 j = l_gr P can lk r q u w2 j
  | 0, q, u, w1, w2, h, j => h j (by omega)
  | r + 1, q, u, w1, w2, h, j => by
    have key : ∀ (x : Int32) (k : Nat), (k < q + 1 ∨ q + 1 + r ≤ k) → upd w1 q x k = upd w2 q x k := by
      intro x k hk
      by_cases e : k = q
      · rw [e, pk_us, pk_us]
      · rw [pk_un e, pk_un e]
        exact h k (by omega)
    cases hc : l_ch P can lk r q u with
    | none =>
      rw [l_gr_none hc, l_gr_none hc]
      exact l_gr_cong r (q + 1) u _ _ (key _) j
    | some t =>
      rw [l_gr_some hc, l_gr_some hc]
      exact l_gr_cong r (q + 1) _ _ _ (key _) j
theorem l_gr_out : ∀ (r q u : Nat) (w : Nat → Int32) (j : Nat), (j < q ∨ q + r ≤ j) → l_gr P can lk r q u w j = w j
  | 0, q, u, w, j, h => rfl
  | r + 1, q, u, w, j, h => by
    cases hc : l_ch P can lk r q u with
    | none => rw [l_gr_none hc, l_gr_out r (q + 1) u _ j (by omega), pk_un (by omega)]
    | some t => rw [l_gr_some hc, l_gr_out r (q + 1) _ _ j (by omega), pk_un (by omega)]
/-- where nobody can learn nobody does -/
theorem l_gr_zero : ∀ (r q u : Nat) (w : Nat → Int32), l_mo P can lk r q u = 0 → ∀ j, q ≤ j → j < q + r → l_gr P can lk r q u w j = -1
  | 0, q, u, w, h, j, h1, h2 => by omega
  | r + 1, q, u, w, h, j, h1, h2 => by
    have hge := l_mx_ge (ok := l_ok can q u) (f := l_f P can lk r q u) (l_mo P can lk r (q + 1) u) P
    rw [← l_mo_s, h] at hge
    have h0 : l_mo P can lk r (q + 1) u = 0 := by omega
    have hc : l_ch P can lk r q u = none := g_ff_no (fun k hk => by
      cases ho : l_ok can q u k with
      | false => rfl
      | true =>
        have := hge.2 k hk ho
        unfold l_f at this
        omega)
    rw [l_gr_none hc]
    rcases Nat.lt_or_ge q j with hl | hl
    · exact l_gr_zero r (q + 1) u _ h0 j (by omega) (by omega)
    · have e : j = q := by omega
      subst e
      rw [l_gr_out r (j + 1) u _ j (by omega), pk_us]
/-- who is taken ahead of q -/
def l_um (P : Nat) (can : Nat → Nat → Bool) (lk : Nat → Nat → Nat) : Nat → Nat
  | 0 => 0
  | q + 1 => match l_ch P can lk (P - q - 1) q (l_um P can lk q) with
    | none => l_um P can lk q
    | some t => l_um P can lk q ||| 2 ^ t
theorem l_gr_um : ∀ (r q : Nat) (w : Nat → Int32), q + r = P → ∀ j, q ≤ j → j < P → l_gr P can lk r q (l_um P can lk q) w j = g_oi (l_ch P can lk (P - j - 1) j (l_um P can lk j))
  | 0, q, w, h, j, h1, h2 => by omega
  | r + 1, q, w, h, j, h1, h2 => by
    have er : P - q - 1 = r := by omega
    cases hc : l_ch P can lk r q (l_um P can lk q) with
    | none =>
      have hu : l_um P can lk (q + 1) = l_um P can lk q := by rw [l_um, er, hc]
      rw [l_gr_none hc]
      rcases Nat.lt_or_ge q j with hl | hl
      · rw [← hu]
        exact l_gr_um r (q + 1) _ (by omega) j (by omega) h2
      · have e : j = q := by omega
        subst e
        rw [l_gr_out r (j + 1) _ _ j (by omega), pk_us, er, hc]
        rfl
    | some t =>
      have hu : l_um P can lk (q + 1) = l_um P can lk q ||| 2 ^ t := by rw [l_um, er, hc]
      rw [l_gr_some hc]
      rcases Nat.lt_or_ge q j with hl | hl
      · rw [← hu]
        exact l_gr_um r (q + 1) _ (by omega) j (by omega) h2
      · have e : j = q := by omega
        subst e
        rw [l_gr_out r (j + 1) _ _ j (by omega), pk_us, er, hc]
        rfl
theorem l_um_lt (hP : P ≤ 7) : ∀ q, l_um P can lk q < 2 ^ P
  | 0 => Nat.two_pow_pos P
  | q + 1 => by
    rw [l_um]
    cases hc : l_ch P can lk (P - q - 1) q (l_um P can lk q) with
    | none => exact l_um_lt hP q
    | some t =>
      have := (g_ff_some P 0 hc).2.1
      exact Nat.or_lt_two_pow (l_um_lt hP q) (Nat.pow_lt_pow_right (by decide) (by omega))
end LCH
