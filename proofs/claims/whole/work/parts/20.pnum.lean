/-! ===== pure rows: numbers, guards, loops ===== -/
theorem gs_gd_t {α : Type} {b : Bool} {x : Option α} (h : b = true) : gs_gd b x = x := by rw [gs_gd, if_pos h]
theorem gs_in_nI {i n : Nat} (h : i < n) (hn : n < 2 ^ 31) : gs_in (nI i) n = true := decide_eq_true (nI_in h hn)
theorem gs_mul (a b : Nat) : nI a * nI b = nI (a * b) := (Int32.ofNat_mul a b).symm
theorem gs_b1_s {α β : Type} {a : α} {k : α → Option β} : gs_b1 (some a) k = k a := rfl
theorem gs_fuel_eq : gs_fuel = 20000 := rfl
/-! ===== pure rows: loops, numbers, bits, notes ===== -/
theorem g_run {F σ ρ : Type} {z : F} {b : F → F} (ap : F → σ → Option ρ) (μ : σ → Nat) (Q : σ → Option ρ → Prop)
    (h : ∀ K x, (∀ y, μ y < μ x → Q y (ap K y)) → Q x (ap (b K) x)) : ∀ n x, μ x < n → Q x (ap (gs_it z b n) x) := by
  intro n
  induction n with
  | zero => intro x hx; exact absurd hx (Nat.not_lt_zero _)
  | succ n ih =>
    intro x hx
    rw [gs_it_s]
    exact h _ x (fun y hy => ih y (by omega))
/-- a loop that counts up, the number behind what it gathers -/
theorem g_la {α ρ : Type} {z : α → Int32 → Option ρ} {b : (α → Int32 → Option ρ) → α → Int32 → Option ρ} (n : Nat) (A : Nat → α) {r : Option ρ} {a0 : α} (hn : n < 20000) (h0 : a0 = A 0)
    (h1 : ∀ K i, i < n → b K (A i) (nI i) = K (A (i + 1)) (nI (i + 1))) (h2 : ∀ K, b K (A n) (nI n) = r) : gs_it z b gs_fuel a0 0 = r := by
  have h := g_run (z := z) (b := b) (ρ := ρ) (σ := Nat) (fun K i => K (A i) (nI i)) (fun i => n - i) (fun i o => i ≤ n → o = r)
    (fun K i ih hi => by
      show b K (A i) (nI i) = r
      rcases Nat.lt_or_ge i n with hl | hl
      · rw [h1 K i hl]
        exact ih (i + 1) (by show n - (i + 1) < n - i; omega) (by omega)
      · have e : i = n := by omega
        subst e
        exact h2 K) gs_fuel 0 (by show n - 0 < gs_fuel; rw [gs_fuel_eq]; omega) (Nat.zero_le _)
  rw [h0]
  have h' : gs_it z b gs_fuel (A 0) (nI 0) = r := h
  rw [nI_0] at h'
  exact h'
/-- the same, the number ahead -/
theorem g_lb {α ρ : Type} {z : Int32 → α → Option ρ} {b : (Int32 → α → Option ρ) → Int32 → α → Option ρ} (n : Nat) (A : Nat → α) {r : Option ρ} {a0 : α} (hn : n < 20000) (h0 : a0 = A 0)
    (h1 : ∀ K i, i < n → b K (nI i) (A i) = K (nI (i + 1)) (A (i + 1))) (h2 : ∀ K, b K (nI n) (A n) = r) : gs_it z b gs_fuel 0 a0 = r := by
  have h := g_run (z := z) (b := b) (ρ := ρ) (σ := Nat) (fun K i => K (nI i) (A i)) (fun i => n - i) (fun i o => i ≤ n → o = r)
    (fun K i ih hi => by
      show b K (nI i) (A i) = r
      rcases Nat.lt_or_ge i n with hl | hl
      · rw [h1 K i hl]
        exact ih (i + 1) (by show n - (i + 1) < n - i; omega) (by omega)
      · have e : i = n := by omega
        subst e
        exact h2 K) gs_fuel 0 (by show n - 0 < gs_fuel; rw [gs_fuel_eq]; omega) (Nat.zero_le _)
  rw [h0]
  have h' : gs_it z b gs_fuel (nI 0) (A 0) = r := h
  rw [nI_0] at h'
  exact h'
/-- a loop that gathers two -/
theorem g_la2 {α β ρ : Type} {z : α → β → Int32 → Option ρ} {b : (α → β → Int32 → Option ρ) → α → β → Int32 → Option ρ} (n : Nat) (A : Nat → α) (B : Nat → β) {r : Option ρ} {a0 : α} {b0 : β} (hn : n < 20000) (h0 : a0 = A 0) (h0b : b0 = B 0)
    (h1 : ∀ K i, i < n → b K (A i) (B i) (nI i) = K (A (i + 1)) (B (i + 1)) (nI (i + 1))) (h2 : ∀ K, b K (A n) (B n) (nI n) = r) : gs_it z b gs_fuel a0 b0 0 = r := by
  have h := g_run (z := z) (b := b) (ρ := ρ) (σ := Nat) (fun K i => K (A i) (B i) (nI i)) (fun i => n - i) (fun i o => i ≤ n → o = r)
    (fun K i ih hi => by
      show b K (A i) (B i) (nI i) = r
      rcases Nat.lt_or_ge i n with hl | hl
      · rw [h1 K i hl]
        exact ih (i + 1) (by show n - (i + 1) < n - i; omega) (by omega)
      · have e : i = n := by omega
        subst e
        exact h2 K) gs_fuel 0 (by show n - 0 < gs_fuel; rw [gs_fuel_eq]; omega) (Nat.zero_le _)
  rw [h0, h0b]
  have h' : gs_it z b gs_fuel (A 0) (B 0) (nI 0) = r := h
  rw [nI_0] at h'
  exact h'
theorem gs_fill {n : Nat} (hn : n < 20000) (x : Int32) (r : Nat → Int32) : f_J7_fill_53178 n x r = some (fun j => if j < n then x else r j) := by
  unfold f_J7_fill_53178
  refine g_lb n (fun i => fun j => if j < i then x else r j) hn (funext fun j => (if_neg (Nat.not_lt_zero j)).symm) (fun K i hi => ?_) (fun K => ?_)
  · unfold f_J7_fill_53178_5
    rw [if_neg (show ¬ Int32.ofNat n ≤ nI i from nI_ge (b := n) hi (by omega)), gs_gd_t (gs_in_nI hi (by omega)), nI_1, nI_clamp (by omega)]
    refine congrArg (K (nI (i + 1))) (funext fun j => ?_)
    unfold upd
    by_cases hj : j = i
    · rw [if_pos hj, if_pos (by omega)]
    · rw [if_neg hj]
      show (if j < i then x else r j) = _
      by_cases hb : j < i
      · rw [if_pos hb, if_pos (by omega)]
      · rw [if_neg hb, if_neg (by omega)]
  · unfold f_J7_fill_53178_5
    exact if_pos (nI_le (a := n) (Nat.le_refl _) (by omega))
theorem gs_clear_r (r : Nat → Int32) : f_X7_clear r = some (upd (fun j => if j < 78 then -1 else r j) 0 0) := by
  unfold f_X7_clear
  rw [gs_fill (by omega), gs_b1_s, gs_gd_t (by decide)]
  rfl
/-- the first of n numbers from i on -/
def g_ff (g : Nat → Bool) : Nat → Nat → Option Nat
  | 0, _ => none
  | n + 1, i => if g i then some i else g_ff g n (i + 1)
theorem g_ff_cong {g h : Nat → Bool} : ∀ (n i : Nat), (∀ k, i ≤ k → k < i + n → g k = h k) → g_ff g n i = g_ff h n i
  | 0, _, _ => rfl
  | n + 1, i, e => by
    rw [g_ff, g_ff, e i (Nat.le_refl _) (by omega), g_ff_cong n (i + 1) (fun k h1 h2 => e k (by omega) (by omega))]
theorem g_ff_some {g : Nat → Bool} : ∀ (n i : Nat) {k : Nat}, g_ff g n i = some k → i ≤ k ∧ k < i + n ∧ g k = true
  | 0, _, _, h => by cases h
  | n + 1, i, k, h => by
    rw [g_ff] at h
    by_cases hg : g i = true
    · rw [if_pos hg] at h
      cases h
      exact ⟨Nat.le_refl _, by omega, hg⟩
    · rw [if_neg hg] at h
      obtain ⟨h1, h2, h3⟩ := g_ff_some n (i + 1) h
      exact ⟨by omega, by omega, h3⟩
theorem g_ff_none {g : Nat → Bool} : ∀ (n i : Nat), g_ff g n i = none → ∀ k, i ≤ k → k < i + n → g k = false
  | 0, _, _, k, h1, h2 => by omega
  | n + 1, i, h, k, h1, h2 => by
    rw [g_ff] at h
    by_cases hg : g i = true
    · rw [if_pos hg] at h
      cases h
    · rw [if_neg hg] at h
      rcases Nat.lt_or_ge i k with hl | hl
      · exact g_ff_none n (i + 1) h k (by omega) (by omega)
      · have e : k = i := by omega
        subst e
        exact Bool.eq_false_iff.mpr hg
theorem g_m1 {n : Nat} (h : n < 2 ^ 31) : ¬ nI n = -1 := by
  intro e
  have := congrArg Int32.toInt e
  rw [nI_toInt h] at this
  have h2 : (-1 : Int32).toInt = -1 := by decide
  omega
theorem g_m1' {n : Nat} (h : n < 2 ^ 31) : ¬ (-1 : Int32) = nI n := fun e => g_m1 h e.symm
theorem g_m1_lt {n : Nat} (h : n < 2 ^ 31) : (-1 : Int32) < nI n := by
  rw [Int32.lt_iff_toInt_lt, nI_toInt h]
  have h2 : (-1 : Int32).toInt = -1 := by decide
  omega
theorem g_m1_le {n : Nat} (h : n < 2 ^ 31) : ¬ nI n ≤ (-1 : Int32) := by
  rw [Int32.le_iff_toInt_le, nI_toInt h]
  have h2 : (-1 : Int32).toInt = -1 := by decide
  omega
theorem g_and (a b : Nat) : nI a &&& nI b = nI (a &&& b) := by
  apply Int32.toBitVec_inj.1
  show BitVec.ofNat 32 a &&& BitVec.ofNat 32 b = BitVec.ofNat 32 (a &&& b)
  apply BitVec.eq_of_getLsbD_eq
  intro i hi
  simp [hi]
theorem g_or (a b : Nat) : nI a ||| nI b = nI (a ||| b) := by
  apply Int32.toBitVec_inj.1
  show BitVec.ofNat 32 a ||| BitVec.ofNat 32 b = BitVec.ofNat 32 (a ||| b)
  apply BitVec.eq_of_getLsbD_eq
  intro i hi
  simp [hi]
theorem g_or0 (x : Int32) : x ||| 0 = x := by simp
theorem g_add0 (x : Int32) : x + 0 = x := by simp
theorem g_1shl : ∀ i, i < 31 → (1 : Int32) <<< (nI i &&& 31) = nI (2 ^ i) := by decide +kernel
theorem g_or_bit {a i : Nat} (ha : a < 2 ^ i) (hi : i < 31) : nI a ||| ((1 : Int32) <<< (nI i &&& 31)) = nI (a + 2 ^ i) := by
  rw [g_1shl i hi, g_or]
  refine congrArg nI ?_
  have h := Nat.two_pow_add_eq_or_of_lt ha 1
  rw [Nat.mul_one] at h
  rw [Nat.or_comm, ← h, Nat.add_comm]
/-- the bits of the first n that are so; how many -/
def g_mk (g : Nat → Bool) : Nat → Nat
  | 0 => 0
  | n + 1 => g_mk g n + (if g n then 2 ^ n else 0)
def g_ct (g : Nat → Bool) : Nat → Nat
  | 0 => 0
  | n + 1 => g_ct g n + (if g n then 1 else 0)
theorem g_mk_lt (g : Nat → Bool) : ∀ n, g_mk g n < 2 ^ n
  | 0 => Nat.zero_lt_one
  | n + 1 => by
    have := g_mk_lt g n
    rw [g_mk, Nat.pow_succ]
    split <;> omega
theorem g_ct_le (g : Nat → Bool) : ∀ n, g_ct g n ≤ n
  | 0 => Nat.le_refl _
  | n + 1 => by
    have := g_ct_le g n
    rw [g_ct]
    split <;> omega
theorem g_mk_bit (g : Nat → Bool) : ∀ n k, (g_mk g n).testBit k = (decide (k < n) && g k)
  | 0, k => by simp [g_mk]
  | n + 1, k => by
    rw [g_mk]
    by_cases hg : g n = true
    · rw [if_pos hg]
      have h := Nat.two_pow_add_eq_or_of_lt (g_mk_lt g n) 1
      rw [Nat.mul_one] at h
      rw [Nat.add_comm, h, Nat.testBit_or, g_mk_bit g n k, Nat.testBit_two_pow]
      by_cases hk : n = k
      · subst hk
        simp [hg]
      · have e : decide (k < n + 1) = decide (k < n) := by
          apply decide_eq_decide.mpr
          omega
        rw [e]
        simp [hk]
    · rw [if_neg hg, Nat.add_zero, g_mk_bit g n k]
      by_cases hk : k = n
      · subst hk
        have : g k = false := Bool.eq_false_iff.mpr hg
        simp [this]
      · have e : decide (k < n + 1) = decide (k < n) := by
          apply decide_eq_decide.mpr
          omega
        rw [e]
theorem g_mk_cong {g h : Nat → Bool} : ∀ {n : Nat}, (∀ k, k < n → g k = h k) → g_mk g n = g_mk h n
  | 0, _ => rfl
  | n + 1, e => by rw [g_mk, g_mk, e n (by omega), g_mk_cong (fun k hk => e k (by omega))]
theorem g_ct_cong {g h : Nat → Bool} : ∀ {n : Nat}, (∀ k, k < n → g k = h k) → g_ct g n = g_ct h n
  | 0, _ => rfl
  | n + 1, e => by rw [g_ct, g_ct, e n (by omega), g_ct_cong (fun k hk => e k (by omega))]
theorem g_ct_cut (g : Nat → Bool) (n : Nat) : ∀ m, n ≤ m → g_ct (fun k => decide (k < n) && g k) m = g_ct g n
  | 0, h => by
    have : n = 0 := by omega
    subst this
    rfl
  | m + 1, h => by
    rcases Nat.lt_or_ge n (m + 1) with hl | hl
    · rw [g_ct, g_ct_cut g n m (by omega)]
      simp [show ¬ m < n by omega]
    · have : n = m + 1 := by omega
      subst this
      exact g_ct_cong (fun k hk => by simp [hk])
theorem g_ct_mk (g : Nat → Bool) {n m : Nat} (h : n ≤ m) : g_ct (Nat.testBit (g_mk g n)) m = g_ct g n := by
  rw [← g_ct_cut g n m h]
  exact g_ct_cong (fun k _ => g_mk_bit g n k)
theorem g_mk_0 {g : Nat → Bool} : ∀ {n : Nat}, g_mk g n = 0 ↔ ∀ k, k < n → g k = false
  | 0 => ⟨fun _ k h => absurd h (Nat.not_lt_zero _), fun _ => rfl⟩
  | n + 1 => by
    have hp : 0 < 2 ^ n := Nat.two_pow_pos n
    rw [g_mk]
    constructor
    · intro h k hk
      have h1 : g_mk g n = 0 := by omega
      rcases Nat.lt_or_ge k n with hl | hl
      · exact g_mk_0.mp h1 k hl
      · have e : k = n := by omega
        subst e
        cases hg : g k with
        | false => rfl
        | true => rw [hg, if_pos rfl] at h; omega
    · intro h
      rw [g_mk_0.mpr (fun k hk => h k (by omega)), h n (by omega)]
      rfl
theorem g_ct_0 {g : Nat → Bool} : ∀ {n : Nat}, g_ct g n = 0 ↔ ∀ k, k < n → g k = false
  | 0 => ⟨fun _ k h => absurd h (Nat.not_lt_zero _), fun _ => rfl⟩
  | n + 1 => by
    rw [g_ct]
    constructor
    · intro h k hk
      have h1 : g_ct g n = 0 := by omega
      rcases Nat.lt_or_ge k n with hl | hl
      · exact g_ct_0.mp h1 k hl
      · have e : k = n := by omega
        subst e
        cases hg : g k with
        | false => rfl
        | true => rw [hg, if_pos rfl] at h; omega
    · intro h
      rw [g_ct_0.mpr (fun k hk => h k (by omega)), h n (by omega)]
      rfl
theorem g_ct_all {g : Nat → Bool} : ∀ {n : Nat}, g_ct g n = n ↔ ∀ k, k < n → g k = true
  | 0 => ⟨fun _ k h => absurd h (Nat.not_lt_zero _), fun _ => rfl⟩
  | n + 1 => by
    have hle := g_ct_le g n
    rw [g_ct]
    constructor
    · intro h k hk
      have h1 : g_ct g n = n ∧ g n = true := by
        cases hg : g n with
        | false => rw [hg] at h; simp at h; omega
        | true => rw [hg, if_pos rfl] at h; exact ⟨by omega, rfl⟩
      rcases Nat.lt_or_ge k n with hl | hl
      · exact g_ct_all.mp h1.1 k hl
      · have e : k = n := by omega
        subst e
        exact h1.2
    · intro h
      rw [g_ct_all.mpr (fun k hk => h k (by omega)), h n (by omega)]
      rfl
theorem g_ct_not (g : Nat → Bool) : ∀ n, g_ct g n + g_ct (fun k => !g k) n = n
  | 0 => rfl
  | n + 1 => by
    have := g_ct_not g n
    rw [g_ct, g_ct]
    cases hg : g n <;> simp <;> omega
theorem g_mk_t {g : Nat → Bool} {i : Nat} (hi : i < 31) (h : g i = true) : nI (g_mk g i) ||| ((1 : Int32) <<< (nI i &&& 31)) = nI (g_mk g (i + 1)) := by
  rw [g_or_bit (g_mk_lt g i) hi, g_mk, if_pos h]
theorem g_mk_f {g : Nat → Bool} {i : Nat} (h : g i = false) : nI (g_mk g i) = nI (g_mk g (i + 1)) := by
  rw [g_mk, if_neg (by rw [h]; exact Bool.false_ne_true), Nat.add_zero]
theorem g_ct_t {g : Nat → Bool} {i : Nat} (h : g i = true) : nI (g_ct g i) + 1 = nI (g_ct g (i + 1)) := by
  rw [nI_1, g_ct, if_pos h]
theorem g_ct_f {g : Nat → Bool} {i : Nat} (h : g i = false) : nI (g_ct g i) = nI (g_ct g (i + 1)) := by
  rw [g_ct, if_neg (by rw [h]; exact Bool.false_ne_true), Nat.add_zero]
theorem g_bc0 : ∀ m, m < 256 → f_J6_bitCount_0f7a4 (nI m) = some (nI (g_ct (Nat.testBit m) 8)) := by decide +kernel
theorem g_sb : ∀ m, m < 256 → ∀ i, i < 8 → (nI m >>> (nI i &&& 31)) &&& 1 = nI (if m.testBit i then 1 else 0) := by decide +kernel
theorem g_mk_256 (g : Nat → Bool) {n : Nat} (h : n ≤ 8) : g_mk g n < 256 := Nat.lt_of_lt_of_le (g_mk_lt g n) (Nat.pow_le_pow_right (by decide) h)
theorem g_bc (g : Nat → Bool) {n : Nat} (h : n ≤ 8) : f_J6_bitCount_0f7a4 (nI (g_mk g n)) = some (nI (g_ct g n)) := by
  rw [g_bc0 _ (g_mk_256 g h), g_ct_mk g h]
theorem g_bits0 {m : Nat} (hm : m < 256) : f_X12_bits (nI m) = some (nI (g_ct (Nat.testBit m) 8)) := by
  unfold f_X12_bits
  refine g_la 8 (fun i => nI (g_ct (Nat.testBit m) i)) (by omega) rfl (fun K i hi => ?_) (fun K => ?_)
  · unfold f_X12_bits_4
    rw [if_neg (show ¬ (8 : Int32) ≤ nI i from nI_ge (b := 8) hi (by omega)), nI_1, g_sb m hm i hi, nI_add]
    rfl
  · unfold f_X12_bits_4
    exact if_pos (nI_le (a := 8) (Nat.le_refl _) (by omega))
theorem g_bits (g : Nat → Bool) {n : Nat} (h : n ≤ 8) : f_X12_bits (nI (g_mk g n)) = some (nI (g_ct g n)) := by
  rw [g_bits0 (g_mk_256 g h), g_ct_mk g h]
/-! ===== notes, four bits each ===== -/
def bt (x : Int32) (i : Nat) : Bool := x.toBitVec.getLsbD i
theorem b_or (x y : Int32) (i : Nat) : bt (x ||| y) i = (bt x i || bt y i) := by unfold bt; rw [Int32.toBitVec_or, BitVec.getLsbD_or]
theorem b_and (x y : Int32) (i : Nat) : bt (x &&& y) i = (bt x i && bt y i) := by unfold bt; rw [Int32.toBitVec_and, BitVec.getLsbD_and]
theorem b_xor (x y : Int32) (i : Nat) : bt (x ^^^ y) i = (bt x i ^^ bt y i) := by unfold bt; rw [Int32.toBitVec_xor, BitVec.getLsbD_xor]
theorem b_m1 : ∀ i, i < 32 → bt (-1) i = true := by decide +kernel
theorem b_15 : ∀ i, i < 32 → bt 15 i = decide (i < 4) := by decide +kernel
theorem s_l : ∀ n, n < 32 → ((nI n &&& 31).toBitVec.smod 32).toNat = n := by decide +kernel
theorem b_shl (n : Nat) (hn : n < 32) (x : Int32) {i : Nat} (hi : i < 32) : bt (x <<< (nI n &&& 31)) i = (decide (n ≤ i) && bt x (i - n)) := by
  unfold bt
  rw [Int32.toBitVec_shiftLeft]
  show (x.toBitVec <<< ((nI n &&& 31).toBitVec.smod 32).toNat).getLsbD i = _
  rw [s_l n hn, BitVec.getLsbD_shiftLeft]
  rcases Nat.lt_or_ge i n with h | h
  · simp [h, Nat.not_le.mpr h]
  · simp [hi, h, Nat.not_lt.mpr h]
def g_nib (x : Int32) (k : Nat) : Nat := x.toBitVec.toNat / 2 ^ (4 * k) % 16
theorem g_nib_lt (x : Int32) (k : Nat) : g_nib x k < 16 := Nat.mod_lt _ (by decide)
theorem g_sh : ∀ k, k < 8 → (((4 * nI k).toUInt32 &&& Int32.toUInt32 31).toBitVec % 32).toNat = 4 * k := by decide +kernel
theorem g_nib_eq (x : Int32) {k : Nat} (hk : k < 8) : (gs_ushr x (4 * nI k)) &&& 15 = nI (g_nib x k) := by
  rw [pk_and _ 4 (by decide)]
  unfold gs_ushr
  rw [pk_ushr x (4 * nI k) (4 * k) (g_sh k hk)]
  rfl
def g_nt (x : Int32) (k : Nat) : Int32 := if g_nib x k = 15 then -1 else nI (g_nib x k)
theorem g_noteAt (x : Int32) {k : Nat} (hk : k < 8) : f_X11_noteAt x (nI k) = some (g_nt x k) := by
  unfold f_X11_noteAt g_nt
  rw [g_nib_eq x hk]
  have hl := g_nib_lt x k
  by_cases h : g_nib x k = 15
  · rw [if_pos h, if_pos (by rw [h]; rfl)]
  · rw [if_neg h, if_neg (show ¬ nI (g_nib x k) = 15 from fun q => h ((nI_eq (a := g_nib x k) (b := 15) (by omega) (by decide)).mp q))]
theorem g_nt_m1 {x : Int32} {k : Nat} : g_nt x k = -1 ↔ g_nib x k = 15 := by
  unfold g_nt
  have hl := g_nib_lt x k
  by_cases h : g_nib x k = 15
  · rw [if_pos h]; exact ⟨fun _ => h, fun _ => rfl⟩
  · rw [if_neg h]; exact ⟨fun q => absurd q (g_m1 (by omega)), fun q => absurd q h⟩
theorem g_nib_bit (x : Int32) (j i : Nat) : (g_nib x j).testBit i = (decide (i < 4) && bt x (4 * j + i)) := by
  unfold g_nib bt
  rw [show (16 : Nat) = 2 ^ 4 from rfl, Nat.testBit_mod_two_pow, Nat.testBit_div_two_pow, Nat.add_comm]
  rfl
def g_wn (x : Int32) (k : Nat) (v : Int32) : Int32 := (x &&& ((15 <<< ((4 * nI k) &&& 31)) ^^^ (-1))) ||| ((v &&& 15) <<< ((4 * nI k) &&& 31))
theorem g_withNote (x : Int32) (k : Nat) (v : Int32) : f_X11_withNote x (nI k) v = some (g_wn x k v) := rfl
theorem g_nib_wn (x v : Int32) {k j : Nat} (hk : k < 8) (hj : j < 8) : g_nib (g_wn x k v) j = if j = k then g_nib v 0 else g_nib x j := by
  apply Nat.eq_of_testBit_eq
  intro i
  have e4 : (4 : Int32) * nI k = nI (4 * k) := gs_mul 4 k
  rcases Nat.lt_or_ge i 4 with hi | hi
  · have hb : bt (g_wn x k v) (4 * j + i) = ((bt x (4 * j + i) && ((decide (4 * k ≤ 4 * j + i) && decide (4 * j + i - 4 * k < 4)) ^^ true)) || (decide (4 * k ≤ 4 * j + i) && (bt v (4 * j + i - 4 * k) && decide (4 * j + i - 4 * k < 4)))) := by
      unfold g_wn
      rw [e4, b_or, b_and, b_xor, b_m1 _ (by omega), b_shl _ (by omega) _ (by omega), b_shl _ (by omega) _ (by omega), b_and, b_15 _ (by omega)]
    rw [g_nib_bit, hb]
    by_cases hjk : j = k
    · subst hjk
      rw [if_pos rfl, g_nib_bit]
      simp [hi, show 4 * j + i - 4 * j = i by omega]
    · rw [if_neg hjk, g_nib_bit]
      rcases Nat.lt_or_ge j k with h | h
      · simp [show ¬ 4 * k ≤ 4 * j + i by omega]
      · simp [show ¬ 4 * j + i - 4 * k < 4 by omega]
  · have h1 : ∀ y : Int32, ∀ m, (g_nib y m).testBit i = false := fun y m => by rw [g_nib_bit]; simp [show ¬ i < 4 by omega]
    rw [h1]
    split
    · rw [h1]
    · rw [h1]
theorem g_nt_wn (x v : Int32) {k j : Nat} (hk : k < 8) (hj : j < 8) : g_nt (g_wn x k v) j = if j = k then g_nt v 0 else g_nt x j := by
  unfold g_nt
  rw [g_nib_wn x v hk hj]
  by_cases h : j = k
  · rw [if_pos h, if_pos h]
  · rw [if_neg h, if_neg h]
theorem g_nib_m1 : ∀ k, k < 8 → g_nib (-1) k = 15 := by decide +kernel
theorem g_nt_d : ∀ d, d < 15 → g_nt (nI d) 0 = nI d := by decide +kernel
theorem g_nt_m (k : Nat) (h : k < 8) : g_nt (-1) k = -1 := g_nt_m1.mpr (g_nib_m1 k h)
theorem g_all15 {x : Int32} (h : ∀ k, k < 8 → g_nib x k = 15) : x = -1 := by
  have h0 : x.toBitVec.toNat / 1 % 16 = 15 := h 0 (by decide)
  have h1 : x.toBitVec.toNat / 16 % 16 = 15 := h 1 (by decide)
  have h2 : x.toBitVec.toNat / 256 % 16 = 15 := h 2 (by decide)
  have h3 : x.toBitVec.toNat / 4096 % 16 = 15 := h 3 (by decide)
  have h4 : x.toBitVec.toNat / 65536 % 16 = 15 := h 4 (by decide)
  have h5 : x.toBitVec.toNat / 1048576 % 16 = 15 := h 5 (by decide)
  have h6 : x.toBitVec.toNat / 16777216 % 16 = 15 := h 6 (by decide)
  have h7 : x.toBitVec.toNat / 268435456 % 16 = 15 := h 7 (by decide)
  have hl := x.toBitVec.isLt
  apply Int32.toBitVec_inj.1
  apply BitVec.eq_of_toNat_eq
  rw [show (-1 : Int32).toBitVec.toNat = 4294967295 by decide]
  omega
theorem g_hold {x : Int32} : x = -1 ↔ ∀ k, k < 8 → g_nt x k = -1 := by
  constructor
  · intro h k hk
    rw [h]; exact g_nt_m k hk
  · intro h
    exact g_all15 (fun k hk => g_nt_m1.mp (h k hk))
/-! ===== copies ===== -/
def g_cpy (src r : Nat → Int32) (o i : Nat) : Nat → Int32 := fun j => if o ≤ j ∧ j < o + i then src (j - o) else r j
theorem g_cpy_0 (src r : Nat → Int32) (o : Nat) : r = g_cpy src r o 0 := by
  funext j
  unfold g_cpy
  rw [if_neg (by omega)]
theorem g_cpy_s (src r : Nat → Int32) (o i : Nat) : upd (g_cpy src r o i) (o + i) (src i) = g_cpy src r o (i + 1) := by
  funext j
  unfold upd g_cpy
  by_cases hj : j = o + i
  · rw [if_pos hj, if_pos (by omega), hj, Nat.add_sub_cancel_left]
  · rw [if_neg hj]
    by_cases hb : o ≤ j ∧ j < o + i
    · rw [if_pos hb, if_pos (by omega)]
    · rw [if_neg hb, if_neg (by omega)]
theorem g_cpy_in {src r : Nat → Int32} {o i j : Nat} (h1 : o ≤ j) (h2 : j < o + i) : g_cpy src r o i j = src (j - o) := if_pos ⟨h1, h2⟩
theorem g_cpy_out {src r : Nat → Int32} {o i j : Nat} (h : j < o ∨ o + i ≤ j) : g_cpy src r o i j = r j := if_neg (by omega)
