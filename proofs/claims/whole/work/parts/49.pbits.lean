/-! ===== pure rows: how many bits of a long are set ===== -/
theorem l_and (a b : Nat) : lN a &&& lN b = lN (a &&& b) := by
  apply Int64.toBitVec_inj.1
  show BitVec.ofNat 64 a &&& BitVec.ofNat 64 b = BitVec.ofNat 64 (a &&& b)
  apply BitVec.eq_of_getLsbD_eq
  intro i hi
  simp [hi]
theorem l_or (a b : Nat) : lN a ||| lN b = lN (a ||| b) := by
  apply Int64.toBitVec_inj.1
  show BitVec.ofNat 64 a ||| BitVec.ofNat 64 b = BitVec.ofNat 64 (a ||| b)
  apply BitVec.eq_of_getLsbD_eq
  intro i hi
  simp [hi]
theorem l_ushr {n : Nat} (hn : n < 2 ^ 64) (s : Int32) (k : Nat) (hs : ((s.toInt64.toUInt64 &&& Int64.toUInt64 63).toBitVec % 64).toNat = k) : gs_lushr (lN n) s = lN (n / 2 ^ k) := by
  unfold gs_lushr
  apply Int64.toBitVec_inj.mp
  have e : ((lN n).toUInt64 >>> (s.toInt64.toUInt64 &&& Int64.toUInt64 63)).toInt64.toBitVec = (lN n).toBitVec >>> k := by
    rw [← hs]
    exact UInt64.toBitVec_shiftRight _ _
  rw [e]
  apply BitVec.eq_of_toNat_eq
  rw [BitVec.toNat_ushiftRight, Nat.shiftRight_eq_div_pow]
  have h1 : (lN n).toBitVec.toNat = n := Nat.mod_eq_of_lt hn
  have h2 : (lN (n / 2 ^ k)).toBitVec.toNat = n / 2 ^ k := Nat.mod_eq_of_lt (Nat.lt_of_le_of_lt (Nat.div_le_self _ _) hn)
  rw [h1, h2]
theorem b_split (k a b : Nat) : a &&& b = (a % 2 ^ k &&& b % 2 ^ k) + 2 ^ k * ((a / 2 ^ k) &&& (b / 2 ^ k)) := by
  have h1 : (a &&& b) % 2 ^ k = (a % 2 ^ k &&& b % 2 ^ k) := by
    apply Nat.eq_of_testBit_eq
    intro i
    rw [Nat.testBit_mod_two_pow, Nat.testBit_and, Nat.testBit_and, Nat.testBit_mod_two_pow, Nat.testBit_mod_two_pow]
    cases decide (i < k) <;> simp
  have h2 : (a &&& b) / 2 ^ k = (a / 2 ^ k) &&& (b / 2 ^ k) := by
    apply Nat.eq_of_testBit_eq
    intro i
    rw [Nat.testBit_div_two_pow, Nat.testBit_and, Nat.testBit_and, Nat.testBit_div_two_pow, Nat.testBit_div_two_pow]
  rw [← h1, ← h2, Nat.mod_add_div]
def b_k (c B : Nat) : Nat → Nat
  | 0 => 0
  | n + 1 => c + B * b_k c B n
def b_2 : Nat → Nat → Nat
  | 0, _ => 0
  | n + 1, x => (x % 2 + x / 2 % 2) + 4 * b_2 n (x / 4)
def b_4 : Nat → Nat → Nat
  | 0, _ => 0
  | n + 1, x => (x % 2 + x / 2 % 2 + x / 4 % 2 + x / 8 % 2) + 16 * b_4 n (x / 16)
def b_y (x : Nat) : Nat := x % 2 + x / 2 % 2 + x / 4 % 2 + x / 8 % 2 + x / 16 % 2 + x / 32 % 2 + x / 64 % 2 + x / 128 % 2
def b_8 : Nat → Nat → Nat
  | 0, _ => 0
  | n + 1, x => b_y x + 256 * b_8 n (x / 256)
theorem b_L1 : ∀ n x, x < 4 ^ n → ((x / 2) &&& b_k 1 4 n) + b_2 n x = x
  | 0, x, h => by
    have : x = 0 := by simpa using h
    subst this
    rfl
  | n + 1, x, h => by
    have ih := b_L1 n (x / 4) (by rw [Nat.pow_succ] at h; omega)
    have s := b_split 2 (x / 2) (b_k 1 4 (n + 1))
    rw [b_k] at s
    rw [b_k, b_2]
    rw [show (2 : Nat) ^ 2 = 4 from rfl, show (1 + 4 * b_k 1 4 n) % 4 = 1 by omega, show (1 + 4 * b_k 1 4 n) / 4 = b_k 1 4 n by omega, Nat.and_one_is_mod, show x / 2 / 4 = x / 4 / 2 by omega] at s
    rw [s]
    omega
theorem b_and3 (x : Nat) : x &&& 3 = x % 4 := Nat.and_two_pow_sub_one_eq_mod x 2
theorem b_and15 (x : Nat) : x &&& 15 = x % 16 := Nat.and_two_pow_sub_one_eq_mod x 4
theorem b_m2 (x : Nat) : x % 2 ≤ 1 := by omega
theorem b_L2 : ∀ k x, (b_2 (2 * k) x &&& b_k 3 16 k) + ((b_2 (2 * k) x / 4) &&& b_k 3 16 k) = b_4 k x
  | 0, x => by simp [b_2, b_k, b_4]
  | k + 1, x => by
    have ih := b_L2 k (x / 16)
    have e : b_2 (2 * (k + 1)) x = (x % 2 + x / 2 % 2) + 4 * ((x / 4 % 2 + x / 4 / 2 % 2) + 4 * b_2 (2 * k) (x / 4 / 4)) := rfl
    rw [show x / 4 / 4 = x / 16 from Nat.div_div_eq_div_mul x 4 4, show x / 4 / 2 = x / 8 from Nat.div_div_eq_div_mul x 4 2] at e
    have hy : x % 2 + x / 2 % 2 + x / 4 % 2 + x / 8 % 2 = (x % 2 + x / 2 % 2) + (x / 4 % 2 + x / 8 % 2) := Nat.add_assoc _ _ _
    rw [e, b_4, b_k, hy]
    generalize b_2 (2 * k) (x / 16) = Y at ih ⊢
    generalize b_k 3 16 k = m at ih ⊢
    have hp : x % 2 + x / 2 % 2 ≤ 2 := Nat.add_le_add (b_m2 _) (b_m2 _)
    have hq : x / 4 % 2 + x / 8 % 2 ≤ 2 := Nat.add_le_add (b_m2 _) (b_m2 _)
    generalize x % 2 + x / 2 % 2 = p at hp ⊢
    generalize x / 4 % 2 + x / 8 % 2 = q at hq ⊢
    have s1 := b_split 4 (p + 4 * (q + 4 * Y)) (3 + 16 * m)
    have s2 := b_split 4 ((p + 4 * (q + 4 * Y)) / 4) (3 + 16 * m)
    rw [show (2 : Nat) ^ 4 = 16 from rfl, show (3 + 16 * m) % 16 = 3 by omega, show (3 + 16 * m) / 16 = m by omega, b_and3] at s1 s2
    rw [show (p + 4 * (q + 4 * Y)) / 16 = Y by omega, show (p + 4 * (q + 4 * Y)) % 16 % 4 = p by omega] at s1
    rw [show (p + 4 * (q + 4 * Y)) / 4 / 16 = Y / 4 by omega, show (p + 4 * (q + 4 * Y)) / 4 % 16 % 4 = q by omega] at s2
    rw [s1, s2, ← ih]
    omega
theorem b_n4 (x : Nat) : x % 2 + x / 2 % 2 + x / 4 % 2 + x / 8 % 2 ≤ 4 := Nat.add_le_add (Nat.add_le_add (Nat.add_le_add (b_m2 _) (b_m2 _)) (b_m2 _)) (b_m2 _)
theorem b_4d (n x : Nat) : b_4 n x % 16 ≤ 4 := by
  cases n with
  | zero => rw [b_4]; omega
  | succ n =>
    rw [b_4]
    have h := b_n4 x
    generalize x % 2 + x / 2 % 2 + x / 4 % 2 + x / 8 % 2 = a at h ⊢
    omega
theorem b_L3 : ∀ j x, (b_4 (2 * j) x + b_4 (2 * j) x / 16) &&& b_k 15 256 j = b_8 j x
  | 0, x => by simp [b_4, b_k, b_8]
  | j + 1, x => by
    have ih := b_L3 j (x / 256)
    have hd := b_4d (2 * j) (x / 256)
    have e : b_4 (2 * (j + 1)) x = (x % 2 + x / 2 % 2 + x / 4 % 2 + x / 8 % 2) + 16 * ((x / 16 % 2 + x / 16 / 2 % 2 + x / 16 / 4 % 2 + x / 16 / 8 % 2) + 16 * b_4 (2 * j) (x / 16 / 16)) := rfl
    rw [show x / 16 / 16 = x / 256 from Nat.div_div_eq_div_mul x 16 16] at e
    have hb := b_n4 (x / 16)
    have hy : b_y x = (x % 2 + x / 2 % 2 + x / 4 % 2 + x / 8 % 2) + (x / 16 % 2 + x / 16 / 2 % 2 + x / 16 / 4 % 2 + x / 16 / 8 % 2) := by
      unfold b_y
      rw [show x / 16 / 2 = x / 32 from Nat.div_div_eq_div_mul x 16 2, show x / 16 / 4 = x / 64 from Nat.div_div_eq_div_mul x 16 4, show x / 16 / 8 = x / 128 from Nat.div_div_eq_div_mul x 16 8]
      simp only [Nat.add_assoc]
    rw [e, b_8, b_k, hy]
    generalize b_4 (2 * j) (x / 256) = Y at ih hd ⊢
    generalize b_k 15 256 j = m at ih ⊢
    have ha := b_n4 x
    generalize x % 2 + x / 2 % 2 + x / 4 % 2 + x / 8 % 2 = a at ha ⊢
    generalize x / 16 % 2 + x / 16 / 2 % 2 + x / 16 / 4 % 2 + x / 16 / 8 % 2 = c at hb ⊢
    have s1 := b_split 8 ((a + 16 * (c + 16 * Y)) + (a + 16 * (c + 16 * Y)) / 16) (15 + 256 * m)
    have r1 : (a + 16 * (c + 16 * Y)) / 16 = c + 16 * Y := by omega
    rw [r1] at s1 ⊢
    have r2 : (a + 16 * (c + 16 * Y) + (c + 16 * Y)) / 256 = Y + Y / 16 := by omega
    have r3 : (a + 16 * (c + 16 * Y) + (c + 16 * Y)) % 256 % 16 = a + c := by omega
    rw [show (2 : Nat) ^ 8 = 256 from rfl, show (15 + 256 * m) % 256 = 15 by omega, show (15 + 256 * m) / 256 = m by omega, b_and15, r2, r3] at s1
    rw [s1, ih]
theorem b_4lt : ∀ n x, b_4 n x < 16 ^ n
  | 0, x => Nat.one_pos
  | n + 1, x => by
    have := b_4lt n (x / 16)
    have h := b_n4 x
    rw [b_4, Nat.pow_succ]
    generalize x % 2 + x / 2 % 2 + x / 4 % 2 + x / 8 % 2 = a at h ⊢
    omega
theorem b_yle (x : Nat) : b_y x ≤ 8 := Nat.add_le_add (Nat.add_le_add (Nat.add_le_add (Nat.add_le_add (b_n4 x) (b_m2 _)) (b_m2 _)) (b_m2 _)) (b_m2 _)
def b_s : Nat → Nat → Nat
  | 0, _ => 0
  | n + 1, x => b_y x + b_s n (x / 256)
theorem g_ct_add (g : Nat → Bool) (k : Nat) : ∀ n, g_ct g (k + n) = g_ct g k + g_ct (fun i => g (k + i)) n
  | 0 => rfl
  | n + 1 => by
    rw [← Nat.add_assoc, g_ct, g_ct_add g k n, g_ct]
    omega
theorem b_bit (x i : Nat) : (if x.testBit i then 1 else 0) = x / 2 ^ i % 2 := by
  rw [Nat.testBit_eq_decide_div_mod_eq]
  rcases Nat.mod_two_eq_zero_or_one (x / 2 ^ i) with h | h <;> rw [h] <;> rfl
theorem b_ct8 (x : Nat) : g_ct (Nat.testBit x) 8 = b_y x := by
  simp only [g_ct, b_bit]
  unfold b_y
  simp only [Nat.pow_zero, Nat.div_one, Nat.zero_add]
theorem b_sct : ∀ n x, g_ct (Nat.testBit x) (8 * n) = b_s n x
  | 0, x => rfl
  | n + 1, x => by
    rw [show 8 * (n + 1) = 8 + 8 * n by omega, g_ct_add, b_ct8, b_s, ← b_sct n (x / 256)]
    refine congrArg (b_y x + ·) (g_ct_cong (fun k _ => ?_))
    rw [show (256 : Nat) = 2 ^ 8 from rfl, Nat.testBit_div_two_pow, Nat.add_comm]
theorem b_bd {a r m : Nat} (ha : a ≤ 64) (hr : r < m) : a + 256 * r < 256 * m := by omega
/-- eight digits of a byte each, laid together -/
theorem b_fold {a0 a1 a2 a3 a4 a5 a6 a7 w : Nat} (h0 : a0 ≤ 8) (h1 : a1 ≤ 8) (h2 : a2 ≤ 8) (h3 : a3 ≤ 8) (h4 : a4 ≤ 8) (h5 : a5 ≤ 8) (h6 : a6 ≤ 8) (h7 : a7 ≤ 8) (hw : w = a0 + 256 * (a1 + 256 * (a2 + 256 * (a3 + 256 * (a4 + 256 * (a5 + 256 * (a6 + 256 * a7))))))) :
    w < 2 ^ 64 ∧ w + w / 2 ^ 8 < 2 ^ 64 ∧ (w + w / 2 ^ 8) + (w + w / 2 ^ 8) / 2 ^ 16 < 2 ^ 64 ∧ (((w + w / 2 ^ 8) + (w + w / 2 ^ 8) / 2 ^ 16) + ((w + w / 2 ^ 8) + (w + w / 2 ^ 8) / 2 ^ 16) / 2 ^ 32) % 2 ^ 32 % 2 ^ 7 = a0 + (a1 + (a2 + (a3 + (a4 + (a5 + (a6 + a7)))))) := by
  generalize e6 : a6 + 256 * a7 = r6 at hw
  generalize e5 : a5 + 256 * r6 = r5 at hw
  generalize e4 : a4 + 256 * r5 = r4 at hw
  generalize e3 : a3 + 256 * r4 = r3 at hw
  generalize e2 : a2 + 256 * r3 = r2 at hw
  generalize e1 : a1 + 256 * r2 = r1 at hw
  have b6 : r6 ≤ 2056 := by omega
  have b5 : r5 ≤ 526344 := by omega
  have b4 : r4 ≤ 134744072 := by omega
  have b3 : r3 ≤ 34494482440 := by omega
  have b2 : r2 ≤ 8830587504648 := by omega
  have b1 : r1 ≤ 2260630401189896 := by omega
  have b0 : w ≤ 578721382704613384 := by omega
  have q1 : w / 2 ^ 8 = r1 := by
    clear e1 e2 e3 e4 e5 e6 b0 b1 b2 b3 b4 b5 b6
    omega
  rw [q1]
  have u0 : w + r1 = (a0 + a1) + 256 * (r1 + r2) := by
    clear e2 e3 e4 e5 e6 b0 b1 b2 b3 b4 b5 b6 q1
    omega
  have u1 : r1 + r2 = (a1 + a2) + 256 * (r2 + r3) := by
    clear e3 e4 e5 e6 b0 b1 b2 b3 b4 b5 b6 q1 u0
    omega
  have u2 : r2 + r3 = (a2 + a3) + 256 * (r3 + r4) := by
    clear e1 e4 e5 e6 b0 b1 b2 b3 b4 b5 b6 q1 u0 u1
    omega
  have u3 : r3 + r4 = (a3 + a4) + 256 * (r4 + r5) := by
    clear e1 e2 e5 e6 b0 b1 b2 b3 b4 b5 b6 q1 u0 u1 u2
    omega
  have u4 : r4 + r5 = (a4 + a5) + 256 * (r5 + r6) := by
    clear e1 e2 e3 e6 b0 b1 b2 b3 b4 b5 b6 q1 u0 u1 u2 u3
    omega
  have u5 : r5 + r6 = (a5 + a6) + 256 * (r6 + a7) := by
    clear e1 e2 e3 e4 b0 b1 b2 b3 b4 b5 b6 q1 u0 u1 u2 u3 u4
    omega
  have u6 : r6 + a7 = (a6 + a7) + 256 * a7 := by
    clear e1 e2 e3 e4 e5 b0 b1 b2 b3 b4 b5 b6 q1 u0 u1 u2 u3 u4 u5
    omega
  have d0 : w < 2 ^ 64 := Nat.lt_of_le_of_lt b0 (by decide)
  have d1 : w + r1 < 2 ^ 64 := Nat.lt_of_le_of_lt (Nat.add_le_add b0 b1) (by decide)
  have bu : w + r1 ≤ 580982013105803280 := Nat.add_le_add b0 b1
  clear q1 hw e1 e2 e3 e4 e5 e6 b0 b1
  generalize w + r1 = u at u0 d1 bu ⊢
  have q2 : u / 2 ^ 16 = r2 + r3 := by
    clear u2 u3 u4 u5 u6 b2 b3 b4 b5 b6 d0 d1 bu
    omega
  rw [q2]
  have d2 : u + (r2 + r3) < 2 ^ 64 := Nat.lt_of_le_of_lt (Nat.add_le_add bu (Nat.add_le_add b2 b3)) (by decide)
  have v0 : u + (r2 + r3) = (a0 + a1 + a2 + a3) + 256 * ((r1 + r2) + (r3 + r4)) := by
    clear u1 u3 u4 u5 u6 b2 b3 b4 b5 b6 d0 d1 bu q2 d2
    omega
  have v1 : (r1 + r2) + (r3 + r4) = (a1 + a2 + a3 + a4) + 256 * ((r2 + r3) + (r4 + r5)) := by
    clear u0 u2 u4 u5 u6 b2 b3 b4 b5 b6 d0 d1 bu q2 d2 v0
    omega
  have v2 : (r2 + r3) + (r4 + r5) = (a2 + a3 + a4 + a5) + 256 * ((r3 + r4) + (r5 + r6)) := by
    clear u0 u1 u3 u5 u6 b2 b3 b4 b5 b6 d0 d1 bu q2 d2 v0 v1
    omega
  have v3 : (r3 + r4) + (r5 + r6) = (a3 + a4 + a5 + a6) + 256 * ((r4 + r5) + (r6 + a7)) := by
    clear u0 u1 u2 u4 u6 b2 b3 b4 b5 b6 d0 d1 bu q2 d2 v0 v1 v2
    omega
  have v4 : (r4 + r5) + (r6 + a7) = (a4 + a5 + a6 + a7) + 256 * ((r5 + r6) + a7) := by
    clear u0 u1 u2 u3 u5 b2 b3 b4 b5 b6 d0 d1 bu q2 d2 v0 v1 v2 v3
    omega
  refine ⟨d0, d1, d2, ?_⟩
  clear u0 u1 u2 u3 u4 u5 u6 b2 b3 b4 b5 b6 d0 d1 bu q2 d2
  generalize u + (r2 + r3) = v at v0 ⊢
  generalize (r1 + r2) + (r3 + r4) = V1 at v0 v1
  generalize (r2 + r3) + (r4 + r5) = V2 at v1 v2
  generalize (r3 + r4) + (r5 + r6) = V3 at v2 v3
  generalize (r4 + r5) + (r6 + a7) = V4 at v3 v4
  generalize (r5 + r6) + a7 = V5 at v4
  generalize es0 : a0 + a1 + a2 + a3 = s0 at v0
  generalize es1 : a1 + a2 + a3 + a4 = s1 at v1
  generalize es2 : a2 + a3 + a4 + a5 = s2 at v2
  generalize es3 : a3 + a4 + a5 + a6 = s3 at v3
  generalize es4 : a4 + a5 + a6 + a7 = s4 at v4
  have c0 : s0 ≤ 32 := by omega
  have c1 : s1 ≤ 32 := by omega
  have c2 : s2 ≤ 32 := by omega
  have c3 : s3 ≤ 32 := by omega
  have c4 : s4 ≤ 32 := by omega
  have et : a0 + (a1 + (a2 + (a3 + (a4 + (a5 + (a6 + a7)))))) = s0 + s4 := by
    clear v0 v1 v2 v3 v4 es1 es2 es3
    omega
  rw [et]
  clear et es0 es1 es2 es3 es4 h0 h1 h2 h3 h4 h5 h6 h7
  have p2 : V2 = s2 + 256 * (s3 + 256 * V4) := by omega
  have p0 : v = s0 + 256 * (s1 + 256 * V2) := by omega
  have q3 : v / 2 ^ 32 = V4 := by
    clear v0 v1 v2 v3 v4
    omega
  rw [q3]
  have f : v + V4 = (s0 + s4) + 256 * (V1 + V5) := by
    clear p0 p2 q3 v1 v2 v3
    omega
  rw [f]
  clear f q3 p0 p2 v0 v1 v2 v3 v4 c1 c2 c3
  generalize V1 + V5 = X
  generalize es : s0 + s4 = tt
  have g : tt ≤ 64 := by omega
  omega
theorem b_c1 : (6148914691236517205 : Int64) = lN 6148914691236517205 := by decide +kernel
theorem b_c2 : (3689348814741910323 : Int64) = lN 3689348814741910323 := by decide +kernel
theorem b_c3 : (1085102592571150095 : Int64) = lN 1085102592571150095 := by decide +kernel
theorem b_d1 : b_k 1 4 32 = 6148914691236517205 := by decide +kernel
theorem b_d2 : b_k 3 16 16 = 3689348814741910323 := by decide +kernel
theorem b_d3 : b_k 15 256 8 = 1085102592571150095 := by decide +kernel
theorem b_long {x : Nat} (hx : x < 2 ^ 63) : f_J13_bitCount_95d88 (lN x) = some (nI (g_ct (Nat.testBit x) 64)) := by
  rw [show (64 : Nat) = 8 * 8 from rfl, b_sct]
  have h1 := b_L1 32 x (Nat.lt_of_lt_of_le hx (by decide))
  have h2 := b_L2 16 x
  have h3 := b_L3 8 x
  rw [show 2 * 16 = 32 from rfl] at h2
  rw [show 2 * 8 = 16 from rfl] at h3
  have l4 := b_4lt 16 x
  have hx64 : x < 2 ^ 64 := Nat.lt_of_lt_of_le hx (by decide)
  have hle : b_2 32 x ≤ x := by
    generalize (x / 2) &&& b_k 1 4 32 = z at h1
    omega
  have hb2 : b_2 32 x < 2 ^ 64 := Nat.lt_of_le_of_lt hle hx64
  have k1 : gs_lushr (lN x) 1 = lN (x / 2 ^ 1) := l_ushr hx64 1 1 (by decide)
  have k2 : lN x - (lN (x / 2 ^ 1) &&& 6148914691236517205) = lN (b_2 32 x) := by
    rw [b_c1, l_and, ← b_d1, Nat.pow_one]
    generalize (x / 2) &&& b_k 1 4 32 = z at h1 ⊢
    rw [lN_sub (by omega)]
    exact congrArg lN (by omega)
  have k3 : gs_lushr (lN (b_2 32 x)) 2 = lN (b_2 32 x / 2 ^ 2) := l_ushr hb2 2 2 (by decide)
  have k4 : (lN (b_2 32 x) &&& 3689348814741910323) + (lN (b_2 32 x / 2 ^ 2) &&& 3689348814741910323) = lN (b_4 16 x) := by
    rw [b_c2, l_and, l_and, lN_add, ← b_d2]
    exact congrArg lN h2
  have k5 : gs_lushr (lN (b_4 16 x)) 4 = lN (b_4 16 x / 2 ^ 4) := l_ushr l4 4 4 (by decide)
  have k6 : (lN (b_4 16 x) + lN (b_4 16 x / 2 ^ 4)) &&& 1085102592571150095 = lN (b_8 8 x) := by
    rw [b_c3, lN_add, l_and, ← b_d3]
    exact congrArg lN h3
  have e8 : b_8 8 x = b_y x + 256 * (b_y (x / 256) + 256 * (b_y (x / 256 / 256) + 256 * (b_y (x / 256 / 256 / 256) + 256 * (b_y (x / 256 / 256 / 256 / 256) + 256 * (b_y (x / 256 / 256 / 256 / 256 / 256) + 256 * (b_y (x / 256 / 256 / 256 / 256 / 256 / 256) + 256 * (b_y (x / 256 / 256 / 256 / 256 / 256 / 256 / 256)))))))) := rfl
  have es : b_s 8 x = b_y x + (b_y (x / 256) + (b_y (x / 256 / 256) + (b_y (x / 256 / 256 / 256) + (b_y (x / 256 / 256 / 256 / 256) + (b_y (x / 256 / 256 / 256 / 256 / 256) + (b_y (x / 256 / 256 / 256 / 256 / 256 / 256) + (b_y (x / 256 / 256 / 256 / 256 / 256 / 256 / 256)))))))) := rfl
  obtain ⟨f1, f2, f3, f4⟩ := b_fold (b_yle _) (b_yle _) (b_yle _) (b_yle _) (b_yle _) (b_yle _) (b_yle _) (b_yle _) e8
  unfold f_J13_bitCount_95d88
  rw [k1, k2, k3, k4, k5, k6, es, ← f4]
  clear f4 es e8 k1 k2 k3 k4 k5 k6 h1 h2 h3
  generalize b_8 8 x = w at f1 f2 f3 ⊢
  have k7 : gs_lushr (lN w) 8 = lN (w / 2 ^ 8) := l_ushr f1 8 8 (by decide)
  rw [k7, lN_add]
  generalize w + w / 2 ^ 8 = u at f2 f3 ⊢
  have k8 : gs_lushr (lN u) 16 = lN (u / 2 ^ 16) := l_ushr f2 16 16 (by decide)
  rw [k8, lN_add]
  generalize u + u / 2 ^ 16 = v at f3 ⊢
  have k9 : gs_lushr (lN v) 32 = lN (v / 2 ^ 32) := l_ushr f3 32 32 (by decide)
  rw [k9, lN_add, lN_i, pk_and _ 7 (by decide)]
  rfl
