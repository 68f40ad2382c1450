/-! ===== pure rows: lessons for all, by trying every way ===== -/
theorem l_bit {u t : Nat} (hu : u < 128) (ht : t < 7) : (nI u >>> (nI t &&& 31)) &&& 1 = nI (if u.testBit t then 1 else 0) := g_sb u (by omega) t (by omega)
theorem l_set {u t : Nat} (ht : t < 7) : nI u ||| ((1 : Int32) <<< (nI t &&& 31)) = nI (u ||| 2 ^ t) := by rw [g_1shl t (by omega), g_or]
theorem l_set_lt {u t : Nat} (hu : u < 128) (ht : t < 7) : u ||| 2 ^ t < 128 := Nat.or_lt_two_pow (n := 7) hu (Nat.pow_lt_pow_right (by decide) ht)
theorem l_T_t {T pre : Nat} {x : Nat × Nat} (h : T < pre + x.1) : l_T T pre (some x) = pre + x.1 := if_pos h
theorem l_T_f {T pre : Nat} {x : Nat × Nat} (h : ¬ T < pre + x.1) : l_T T pre (some x) = T := if_neg h
theorem l_T_n (T pre : Nat) : l_T T pre none = T := rfl
theorem l_B_t {T pre : Nat} {row : Nat → Nat → Int32} {best : Nat → Int32} {x : Nat × Nat} (h : T < pre + x.1) : l_B T pre row best (some x) = row x.2 := if_pos h
theorem l_B_f {T pre : Nat} {row : Nat → Nat → Int32} {best : Nat → Int32} {x : Nat × Nat} (h : ¬ T < pre + x.1) : l_B T pre row best (some x) = best := if_neg h
theorem l_B_n (T pre : Nat) (row : Nat → Nat → Int32) (best : Nat → Int32) : l_B T pre row best none = best := rfl
theorem l_leaf {pre T : Nat} {F : Int32 → Int32 → Int32 → Int32 → Int32 → Int32 → Int32 → (Nat → Int32) → (Nat → Int32) → (Nat → Int32) → Option (Int32 × Int32 × (Nat → Int32) × (Nat → Int32))} (hp : pre ≤ 8000) (hT : T ≤ 8000) (way best : Nat → Int32) :
    ∃ best', f_X4_assign_17 F (nI (pre / 1000)) (nI (pre % 1000)) (nI (T / 1000)) (nI (T % 1000)) way best = some (nI ((if T < pre then pre else T) / 1000), nI ((if T < pre then pre else T) % 1000), way, best') ∧ ∀ j, j < 7 → best' j = if T < pre then way j else best j := by
  have h42 : f_X4_assign_42 F (nI (pre / 1000)) (nI (pre % 1000)) (nI (T / 1000)) (nI (T % 1000)) way best = some (nI (pre / 1000), nI (pre % 1000), way, va_cpy way best 0 0 7) := by
    unfold f_X4_assign_42
    rw [gs_gd_t (by decide)]
    rfl
  have hcp : ∀ j, j < 7 → va_cpy way best 0 0 7 j = way j := by
    intro j hj
    unfold va_cpy
    rw [if_pos ⟨Nat.zero_le _, by omega⟩, Nat.zero_add, Nat.sub_zero]
  unfold f_X4_assign_17
  rw [h42]
  by_cases c1 : T / 1000 < pre / 1000
  · have c : T < pre := by omega
    rw [if_pos (nI_lt c1 (by omega)), if_pos c]
    exact ⟨_, rfl, fun j hj => by rw [if_pos c]; exact hcp j hj⟩
  · rw [if_neg (nI_nlt (by omega) (by omega))]
    by_cases c2 : pre / 1000 = T / 1000
    · rw [if_pos (by rw [c2])]
      by_cases c3 : pre % 1000 ≤ T % 1000
      · have c : ¬ T < pre := by omega
        rw [if_pos (nI_le c3 (by omega)), if_neg c]
        exact ⟨_, rfl, fun j hj => by rw [if_neg c]⟩
      · have c : T < pre := by omega
        rw [if_neg (nI_ge (by omega) (by omega)), if_pos c]
        exact ⟨_, rfl, fun j hj => by rw [if_pos c]; exact hcp j hj⟩
    · have c : ¬ T < pre := by omega
      rw [if_neg (fun z => c2 ((nI_eq (by omega) (by omega)).mp z)), if_neg c]
      exact ⟨_, rfl, fun j hj => by rw [if_neg c]⟩
/-- class: every way is tried, and the first of the best stays -/
theorem l_dfs {P : Nat} {can : Nat → Nat → Bool} {lk : Nat → Nat → Nat} {likes : Nat → Int32} (hP : P ≤ 7) (hl : ∀ p, p < P → ∀ t, t < P → likes (7 * p + t) = if can p t = true then nI (lk p t) else -1) (h8 : ∀ p t, lk p t ≤ 8) :
    ∀ (r d q u pre T : Nat) (way best : Nat → Int32), r < d → q + r = P → u < 128 → pre ≤ 1008 * q → pre % 1000 ≤ 8 * q → T ≤ 8000 →
      ∃ way' best', gs_it (fun _ _ _ _ _ _ _ _ _ _ => none) f_X4_assign d (nI q) (nI u) (nI (pre / 1000)) (nI (pre % 1000)) (nI (T / 1000)) (nI (T % 1000)) (nI P) likes way best = some (nI ((if T < pre + l_mo P can lk r q u then pre + l_mo P can lk r q u else T) / 1000), nI ((if T < pre + l_mo P can lk r q u then pre + l_mo P can lk r q u else T) % 1000), way', best') ∧ (∀ j, (j < q ∨ P ≤ j) → way' j = way j) ∧ ∀ j, j < 7 → best' j = if T < pre + l_mo P can lk r q u then l_gr P can lk r q u way j else best j := by
  intro r
  induction r with
  | zero =>
    intro d q u pre T way best hd hq hu hpre hpm hT
    obtain ⟨d, rfl⟩ : ∃ d', d = d' + 1 := ⟨d - 1, by omega⟩
    rw [gs_it_s]
    unfold f_X4_assign
    rw [if_pos (nI_le (by omega) (by omega))]
    obtain ⟨best', e, hb⟩ := l_leaf (F := gs_it (fun _ _ _ _ _ _ _ _ _ _ => none) f_X4_assign d) (pre := pre) (T := T) (by omega) hT way best
    exact ⟨way, best', e, fun _ _ => rfl, hb⟩
  | succ r ih =>
    intro d q u pre T way best hd hq hu hpre hpm hT
    obtain ⟨d, rfl⟩ : ∃ d', d = d' + 1 := ⟨d - 1, by omega⟩
    rw [gs_it_s]
    generalize hF : gs_it (fun _ _ _ _ _ _ _ _ _ _ => none) f_X4_assign d = F
    unfold f_X4_assign
    rw [if_neg (nI_ge (by omega) (by omega)), if_pos (show nI q < 7 from nI_lt (b := 7) (by omega) (by omega))]
    have hmo : ∀ q u, l_mo P can lk r q u ≤ 1008 * r := fun q u => l_mo_le h8 r q u
    have ihF : ∀ (q u pre T : Nat) (way best : Nat → Int32), q + r = P → u < 128 → pre ≤ 1008 * q → pre % 1000 ≤ 8 * q → T ≤ 8000 →
      ∃ way' best', F (nI q) (nI u) (nI (pre / 1000)) (nI (pre % 1000)) (nI (T / 1000)) (nI (T % 1000)) (nI P) likes way best = some (nI ((if T < pre + l_mo P can lk r q u then pre + l_mo P can lk r q u else T) / 1000), nI ((if T < pre + l_mo P can lk r q u then pre + l_mo P can lk r q u else T) % 1000), way', best') ∧ (∀ j, (j < q ∨ P ≤ j) → way' j = way j) ∧ ∀ j, j < 7 → best' j = if T < pre + l_mo P can lk r q u then l_gr P can lk r q u way j else best j := by
      intro q u pre T way best h1 h2 h3 h4 h5
      have := ih d q u pre T way best (by omega) h1 h2 h3 h4 h5
      rw [hF] at this
      exact this
    clear ih
    generalize hrow : (fun t => l_gr P can lk r (q + 1) (u ||| 2 ^ t) (upd way q (nI t))) = row
    have rowt : ∀ t, l_gr P can lk r (q + 1) (u ||| 2 ^ t) (upd way q (nI t)) = row t := fun t => congrFun hrow t
    have hfm : ∀ i, i ≤ P → l_T T pre (l_fm (l_ok can q u) (l_f P can lk r q u) i) ≤ 8000 := by
      intro i hi
      cases hx : l_fm (l_ok can q u) (l_f P can lk r q u) i with
      | none => exact hT
      | some x =>
        obtain ⟨a, b, c, -, -⟩ := (l_fm_spec _ _ i).1 x hx
        have h1 := hmo (q + 1) (u ||| 2 ^ x.2)
        have h2 := h8 q x.2
        have h3 : x.1 ≤ 1008 + 1008 * r := by
          rw [← c]
          unfold l_f
          omega
        unfold l_T
        try dsimp only
        split <;> omega
    have hr := g_run (z := fun _ _ _ _ _ => none) (b := f_X4_assign_72 F (nI q) (nI u) (nI (pre / 1000)) (nI (pre % 1000)) (nI P) likes (fun (v_t_bestMany' : Int32) (v_t_bestLike' : Int32) (r_t_way' : Nat → Int32) (r_t_best' : Nat → Int32) => f_X4_assign_148 F (nI q) (nI u) (nI (pre / 1000)) (nI (pre % 1000)) v_t_bestMany' v_t_bestLike' (nI P) likes r_t_way' r_t_best')) (ρ := Int32 × Int32 × (Nat → Int32) × (Nat → Int32)) (σ := Nat × (Nat → Int32) × (Nat → Int32))
      (fun K y => K (nI y.1) (nI (l_T T pre (l_fm (l_ok can q u) (l_f P can lk r q u) y.1) / 1000)) (nI (l_T T pre (l_fm (l_ok can q u) (l_f P can lk r q u) y.1) % 1000)) y.2.1 y.2.2) (fun y => P - y.1)
      (fun y o => y.1 ≤ P → (∀ j, (j < q ∨ P ≤ j) → y.2.1 j = way j) → (∀ j, j < 7 → y.2.2 j = l_B T pre row best (l_fm (l_ok can q u) (l_f P can lk r q u) y.1) j) → ∃ way' best', o = some (nI ((if T < pre + l_mo P can lk (r + 1) q u then pre + l_mo P can lk (r + 1) q u else T) / 1000), nI ((if T < pre + l_mo P can lk (r + 1) q u then pre + l_mo P can lk (r + 1) q u else T) % 1000), way', best') ∧ (∀ j, (j < q ∨ P ≤ j) → way' j = way j) ∧ ∀ j, j < 7 → best' j = if T < pre + l_mo P can lk (r + 1) q u then l_gr P can lk (r + 1) q u way j else best j)
      (by
        rintro K ⟨i, wi, bi⟩ ihK hi hwi hbi
        replace hi : i ≤ P := hi
        replace hwi : ∀ j, (j < q ∨ P ≤ j) → wi j = way j := hwi
        replace hbi : ∀ j, j < 7 → bi j = l_B T pre row best (l_fm (l_ok can q u) (l_f P can lk r q u) i) j := hbi
        show ∃ way' best', f_X4_assign_72 F (nI q) (nI u) (nI (pre / 1000)) (nI (pre % 1000)) (nI P) likes _ K (nI i) (nI (l_T T pre (l_fm (l_ok can q u) (l_f P can lk r q u) i) / 1000)) (nI (l_T T pre (l_fm (l_ok can q u) (l_f P can lk r q u) i) % 1000)) wi bi = _ ∧ _
        have hTi := hfm i hi
        unfold f_X4_assign_72
        rcases Nat.lt_or_ge i P with hl2 | hl2
        · have ix : nI q * 7 + nI i = nI (7 * q + i) := by
            show nI q * nI 7 + nI i = _
            rw [pk_mul, nI_add, Nat.mul_comm]
          have hbit := l_bit (u := u) (t := i) hu (by omega)
          have go := fun wi bi h1 h2 => ihK (i + 1, wi, bi) (by show P - (i + 1) < P - i; omega) (by show i + 1 ≤ P; omega) h1 h2
          rw [if_neg (nI_ge hl2 (by omega)), ix, gs_gd_t (gs_in_nI (i := 7 * q + i) (n := 49) (by omega) (by decide)), nI_clamp (n := 7 * q + i) (by omega), hl q (by omega) i hl2, nI_1 i]
          by_cases c1 : can q i = true
          · have h8i := h8 q i
            rw [if_pos c1, if_neg (g_m1 (by omega)), hbit]
            by_cases c2 : u.testBit i = true
            · have ho : l_ok can q u i = false := by unfold l_ok; rw [c2]; simp
              rw [if_neg (by rw [if_pos c2]; decide)]
              try dsimp only at go
              rw [l_fm_f ho] at go
              exact go wi bi hwi hbi
            · have ho : l_ok can q u i = true := by unfold l_ok; rw [c1, Bool.eq_false_iff.mpr c2]; rfl
              rw [if_pos (by rw [if_neg c2]; rfl), gs_gd_t (gs_in_nI (i := q) (n := 7) (by omega) (by decide)), nI_clamp (n := q) (by omega), l_set (by omega), nI_1 q]
              have a1 : nI (pre / 1000) + 1 = nI ((pre + 1000 + lk q i) / 1000) := by
                rw [nI_1]
                exact congrArg nI (by omega)
              have a2 : nI (pre % 1000) + nI (lk q i) = nI ((pre + 1000 + lk q i) % 1000) := by
                rw [nI_add]
                exact congrArg nI (by omega)
              rw [a1, a2]
              obtain ⟨w', b', e, hw', hb'⟩ := ihF (q + 1) (u ||| 2 ^ i) (pre + 1000 + lk q i) (l_T T pre (l_fm (l_ok can q u) (l_f P can lk r q u) i)) (upd wi q (nI i)) bi (by omega) (l_set_lt hu (by omega)) (by omega) (by omega) hTi
              rw [e, g_b4_s]
              have ef : pre + 1000 + lk q i + l_mo P can lk r (q + 1) (u ||| 2 ^ i) = pre + l_f P can lk r q u i := by unfold l_f; omega
              rw [ef] at hb' ⊢
              have eg : ∀ j, l_gr P can lk r (q + 1) (u ||| 2 ^ i) (upd wi q (nI i)) j = row i j := by
                intro j
                rw [← rowt i]
                refine l_gr_cong r (q + 1) _ _ _ (fun k hk => ?_) j
                by_cases ek : k = q
                · rw [ek, pk_us, pk_us]
                · rw [pk_un ek, pk_un ek]
                  exact hwi k (by omega)
              have eT : (if l_T T pre (l_fm (l_ok can q u) (l_f P can lk r q u) i) < pre + l_f P can lk r q u i then pre + l_f P can lk r q u i else l_T T pre (l_fm (l_ok can q u) (l_f P can lk r q u) i)) = l_T T pre (l_fm (l_ok can q u) (l_f P can lk r q u) (i + 1)) := by
                rw [l_fm_t ho]
                cases hx : l_fm (l_ok can q u) (l_f P can lk r q u) i with
                | none => rfl
                | some x =>
                  dsimp only
                  by_cases z : x.1 < l_f P can lk r q u i
                  · rw [if_pos z]
                    by_cases z1 : T < pre + x.1
                    · rw [l_T_t z1, l_T_t (x := (l_f P can lk r q u i, i)) (by show T < pre + l_f P can lk r q u i; omega), if_pos (by omega)]
                    · rw [l_T_f z1]
                      by_cases z2 : T < pre + l_f P can lk r q u i
                      · rw [if_pos z2, l_T_t (x := (l_f P can lk r q u i, i)) z2]
                      · rw [if_neg z2, l_T_f (x := (l_f P can lk r q u i, i)) z2]
                  · rw [if_neg z]
                    by_cases z1 : T < pre + x.1
                    · rw [l_T_t z1, if_neg (by omega)]
                    · rw [l_T_f z1, if_neg (by omega)]
              rw [eT]
              refine go w' b' (fun j hj => ?_) (fun j hj => ?_)
              · show w' j = way j
                rw [hw' j (by omega), pk_un (by omega)]
                exact hwi j hj
              · show b' j = l_B T pre row best (l_fm (l_ok can q u) (l_f P can lk r q u) (i + 1)) j
                rw [hb' j hj, eg j, hbi j hj, l_fm_t ho]
                cases hx : l_fm (l_ok can q u) (l_f P can lk r q u) i with
                | none =>
                  dsimp only
                  rw [l_T_n, l_B_n]
                  by_cases z : T < pre + l_f P can lk r q u i
                  · rw [if_pos z, l_B_t (x := (l_f P can lk r q u i, i)) z]
                  · rw [if_neg z, l_B_f (x := (l_f P can lk r q u i, i)) z]
                | some x =>
                  dsimp only
                  by_cases z : x.1 < l_f P can lk r q u i
                  · rw [if_pos z]
                    by_cases z1 : T < pre + x.1
                    · rw [l_T_t z1, if_pos (by omega), l_B_t (x := (l_f P can lk r q u i, i)) (by show T < pre + l_f P can lk r q u i; omega)]
                    · rw [l_T_f z1, l_B_f z1]
                      by_cases z2 : T < pre + l_f P can lk r q u i
                      · rw [if_pos z2, l_B_t (x := (l_f P can lk r q u i, i)) z2]
                      · rw [if_neg z2, l_B_f (x := (l_f P can lk r q u i, i)) z2]
                  · rw [if_neg z]
                    by_cases z1 : T < pre + x.1
                    · rw [l_T_t z1, if_neg (by omega)]
                    · rw [l_T_f z1, if_neg (by omega)]
          · have ho : l_ok can q u i = false := by unfold l_ok; rw [Bool.eq_false_iff.mpr c1]; rfl
            rw [if_neg c1, if_pos rfl]
            try dsimp only at go
            rw [l_fm_f ho] at go
            exact go wi bi hwi hbi
        · have e : i = P := by omega
          subst e
          rw [if_pos (nI_le (Nat.le_refl _) (by omega))]
          try dsimp only
          unfold f_X4_assign_148
          rw [gs_gd_t (gs_in_nI (i := q) (n := 7) (by omega) (by decide)), nI_clamp (n := q) (by omega), nI_1 q]
          obtain ⟨w', b', e, hw', hb'⟩ := ihF (q + 1) u pre (l_T T pre (l_fm (l_ok can q u) (l_f i can lk r q u) i)) (upd wi q (-1)) bi (by omega) hu (by omega) (by omega) hTi
          rw [e, g_b4_s]
          have eg : ∀ j, l_gr i can lk r (q + 1) u (upd wi q (-1)) j = l_gr i can lk r (q + 1) u (upd way q (-1)) j := by
            intro j
            refine l_gr_cong r (q + 1) _ _ _ (fun k hk => ?_) j
            by_cases ek : k = q
            · rw [ek, pk_us, pk_us]
            · rw [pk_un ek, pk_un ek]
              exact hwi k (by omega)
          have hww : ∀ j, (j < q ∨ i ≤ j) → w' j = way j := fun j hj => by
            rw [hw' j (by omega), pk_un (by omega)]
            exact hwi j hj
          cases hx : l_fm (l_ok can q u) (l_f i can lk r q u) i with
          | none =>
            rw [hx] at hb' hbi
            obtain ⟨hc, hm⟩ := l_ch_none hx
            rw [hm]
            refine ⟨w', b', rfl, hww, fun j hj => ?_⟩
            rw [hb' j hj, eg j, l_gr_none hc, hbi j hj]
            rfl
          | some x =>
            rw [hx] at hb' hbi
            rcases Nat.lt_or_ge x.1 (l_mo i can lk r (q + 1) u) with hlt | hge
            · obtain ⟨hc, hm⟩ := l_ch_lt hx hlt
              rw [hm]
              have eT : (if l_T T pre (some x) < pre + l_mo i can lk r (q + 1) u then pre + l_mo i can lk r (q + 1) u else l_T T pre (some x)) = if T < pre + l_mo i can lk r (q + 1) u then pre + l_mo i can lk r (q + 1) u else T := by
                by_cases z1 : T < pre + x.1
                · rw [l_T_t z1, if_pos (by omega), if_pos (by omega)]
                · rw [l_T_f z1]
              rw [eT]
              refine ⟨w', b', rfl, hww, fun j hj => ?_⟩
              rw [hb' j hj, eg j, l_gr_none hc, hbi j hj]
              by_cases z1 : T < pre + x.1
              · rw [l_T_t z1, if_pos (by omega), if_pos (by omega)]
              · rw [l_T_f z1, l_B_f z1]
            · obtain ⟨hc, hm⟩ := l_ch_some hx hge
              rw [hm]
              have eT : (if l_T T pre (some x) < pre + l_mo i can lk r (q + 1) u then pre + l_mo i can lk r (q + 1) u else l_T T pre (some x)) = if T < pre + x.1 then pre + x.1 else T := by
                by_cases z1 : T < pre + x.1
                · rw [l_T_t z1, if_neg (by omega), if_pos z1]
                · rw [l_T_f z1, if_neg (by omega), if_neg z1]
              rw [eT]
              refine ⟨w', b', rfl, hww, fun j hj => ?_⟩
              rw [hb' j hj, l_gr_some hc, rowt x.2, hbi j hj]
              by_cases z1 : T < pre + x.1
              · rw [l_T_t z1, if_neg (by omega), if_pos z1, l_B_t z1]
              · rw [l_T_f z1, if_neg (by omega), if_neg z1, l_B_f z1]) gs_fuel (0, way, best) (by show P - 0 < gs_fuel; rw [gs_fuel_eq]; omega) (Nat.zero_le _) (fun _ _ => rfl) (fun _ _ => rfl)
    dsimp only at hr
    have e0 : l_T T pre (l_fm (l_ok can q u) (l_f P can lk r q u) 0) = T := rfl
    rw [e0, nI_0] at hr
    exact hr
theorem l_solve {P : Nat} {can : Nat → Nat → Bool} {lk : Nat → Nat → Nat} {likes : Nat → Int32} (hP : P ≤ 7) (hl : ∀ p, p < P → ∀ t, t < P → likes (7 * p + t) = if can p t = true then nI (lk p t) else -1) (h8 : ∀ p t, lk p t ≤ 8) (bm bl : Int32) (way best : Nat → Int32) :
    ∃ way' best', f_X4_solve bm bl (nI P) likes way best = some (nI (l_mo P can lk P 0 0 / 1000), nI (l_mo P can lk P 0 0 % 1000), way', best') ∧ ∀ p, p < P → best' p = g_oi (l_ch P can lk (P - p - 1) p (l_um P can lk p)) := by
  unfold f_X4_solve
  rw [gs_fill (by omega), gs_b1_s, gs_fill (by omega), gs_b1_s]
  unfold f_X4_assign_r
  obtain ⟨w', b', e, hw', hb'⟩ := l_dfs hP hl h8 P 10 0 0 0 0 (fun j => if j < 7 then -1 else way j) (fun j => if j < 7 then -1 else best j) (by omega) (by omega) (by omega) (by omega) (by omega) (by omega)
  have e' : gs_it (fun _ _ _ _ _ _ _ _ _ _ => none) f_X4_assign 10 0 0 0 0 0 0 (nI P) likes (fun j => if j < 7 then -1 else way j) (fun j => if j < 7 then -1 else best j) = _ := e
  rw [e', g_b4_s]
  have hT : (if 0 < 0 + l_mo P can lk P 0 0 then 0 + l_mo P can lk P 0 0 else 0) = l_mo P can lk P 0 0 := by
    split <;> omega
  rw [hT]
  refine ⟨w', b', rfl, fun p hp => ?_⟩
  have hg := l_gr_um (P := P) (can := can) (lk := lk) P 0 (fun j => if j < 7 then -1 else way j) (by omega) p (by omega) hp
  rw [hb' p (by omega)]
  by_cases z : 0 < 0 + l_mo P can lk P 0 0
  · rw [if_pos z]
    exact hg
  · rw [if_neg z, if_pos (by omega), ← hg]
    exact (l_gr_zero P 0 0 _ (by omega) p (by omega) (by omega)).symm
