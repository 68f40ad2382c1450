theorem dJ0_coder_7d493_0 : decode cJ0_coder_7d493 0 = .ok (.getstatic 38, 3) := by decide +kernel
theorem dJ0_coder_7d493_3 : decode cJ0_coder_7d493 3 = .ok (.ifCond .eq 10, 3) := by decide +kernel
theorem dJ0_coder_7d493_6 : decode cJ0_coder_7d493 6 = .ok (.aload_n 0, 1) := by decide +kernel
theorem dJ0_coder_7d493_7 : decode cJ0_coder_7d493 7 = .ok (.getfield 15, 3) := by decide +kernel
theorem dJ0_coder_7d493_10 : decode cJ0_coder_7d493 10 = .ok (.goto 4, 3) := by decide +kernel
theorem dJ0_coder_7d493_13 : decode cJ0_coder_7d493 13 = .ok (.iconst 1, 1) := by decide +kernel
theorem dJ0_coder_7d493_14 : decode cJ0_coder_7d493 14 = .ok (.ireturn, 1) := by decide +kernel
abbrev w_J0_coder_7d493 (E : gs_E) : va_W := []
abbrev rm_J0_coder_7d493 : Room := { frames := 0, cells := 0, slots := 0, locals := 0 }
def f_J0_coder_7d493 (x0 : Nat) : Option (Int32) :=
  if (1 : Int32) = 0 then
    some 1
  else
    some 0
set_option maxHeartbeats 4000000 in
set_option maxRecDepth 100000 in
theorem c_J0_coder_7d493 (l : Launch) (E : gs_E) (J : gs_J) (x0 : Nat) (rr : Int32) (h : f_J0_coder_7d493 x0 = some rr) : gs_MRS l yJ0_coder_7d493 wsJ0_coder_7d493 rm_J0_coder_7d493 [.ref (J.2.1 x0)] E J (w_J0_coder_7d493 E ) (some (.int rr)) := by
  refine Met.ofW (cc := cJ0_coder_7d493) (maxL := 1) (ret := (some .byte)) (by decide) rfl ?_
  intro p e s m args below meth c s₁ B hml hv
  obtain ⟨rfl, hP, hk, hD0, hAm⟩ := hv
  have X0 : gs_X wsJ0_coder_7d493 cJ0_coder_7d493 RJ0 1 (some .byte) p s m ([.ref (J.2.1 x0)] : List Value).toArray meth c := gs_X.of B hml
  obtain ⟨hx, hb, -, hown, hts, hr, hlk⟩ := id X0
  have hD := hD0
  have hret : ∀ (pc : Nat) (ls : Array Slot), narrow .byte (.int rr) = .int rr → decode cJ0_coder_7d493 pc = .ok (.ireturn, 1) → W p l e rm_J0_coder_7d493 s m ([.ref (J.2.1 x0)] : List Value).toArray below meth c s.heap [] 0 0 (MQ below (gs_QR (some (.int rr))) ([.ref (J.2.1 x0)] : List Value).toArray s 0 0 (fun _ => False)) (F0 m pc ls [.int rr]) := fun pc ls hnar hd => W.zret hx hb hr hnar (fun t ht hW => ⟨rfl, ht⟩) (fun q hq => by cases hq) hd
  have hl := lv_entry ([.ref (J.2.1 x0)]) (n := 1) (Nat.le_of_ble_eq_true rfl)
  rw [lg_entry_eq]
  generalize (lg_sl ([.ref (J.2.1 x0)]) ++ List.replicate (1 - (lg_sl ([.ref (J.2.1 x0)])).length) Slot.unset).toArray = ls at hl ⊢
  have hl : lv_has ls 1 [(0, .ref (J.2.1 x0))] := hl
  unfold f_J0_coder_7d493 at h
  refine va_gets hx hb hAm.2.2.1 va_S.rf hown (hts (.fieldLink RJ0 38 "java/lang/String" "COMPACT_STRINGS" "Z") (List.mem_cons_of_mem _ (List.mem_of_getElem? (i := 0) rfl))) (fun _ h9 => h9) dJ0_coder_7d493_0 ?_
  refine lv_if_eq (tgt := 13) hx hb dJ0_coder_7d493_3 (by decide) (fun c1 => ?_) (fun c1 => ?_)
  · replace h := gs_ift c1 h
    refine lv_iconst (v := 1) hx hb dJ0_coder_7d493_13 (by decide) ?_
    have h := Option.some.inj h
    subst h
    exact hret _ _ rfl dJ0_coder_7d493_14
  · replace h := gs_iff c1 h
    refine lv_aload_n hx hb dJ0_coder_7d493_6 rfl (lv_at hl 0 rfl) ?_
    refine vk_getf hx hb (hAm.1 x0).2.1 va_S.rf hown (hts (.fieldLink RJ0 15 "java/lang/String" "coder" "B") (List.mem_cons_of_mem _ (List.mem_of_getElem? (i := 1) rfl))) (fun _ h9 => h9) dJ0_coder_7d493_7 ?_
    refine lv_goto (tgt := 14) hx hb dJ0_coder_7d493_10 (by decide) ?_
    have h := Option.some.inj h
    subst h
    exact hret _ _ rfl dJ0_coder_7d493_14

set_option maxRecDepth 100000 in
theorem ggJ0_length_8abf5_J0_coder_7d493 : GoodIn wsJ0_length_8abf5 wsJ0_coder_7d493 := goodIn_r _ [6, 7, 8] rfl (by decide +kernel)
set_option maxRecDepth 100000 in
theorem gJ0_length_8abf5_J0_coder_7d493 : GoodIn wsJ0_length_8abf5 (wsV RJ0 335 RJ0 yJ0_coder_7d493 wsJ0_coder_7d493) := goodIn_app (goodIn_of _ (by decide +kernel)) ggJ0_length_8abf5_J0_coder_7d493
theorem dJ0_length_8abf5_0 : decode cJ0_length_8abf5 0 = .ok (.aload_n 0, 1) := by decide +kernel
theorem dJ0_length_8abf5_1 : decode cJ0_length_8abf5 1 = .ok (.getfield 9, 3) := by decide +kernel
theorem dJ0_length_8abf5_4 : decode cJ0_length_8abf5 4 = .ok (.arraylength, 1) := by decide +kernel
theorem dJ0_length_8abf5_5 : decode cJ0_length_8abf5 5 = .ok (.aload_n 0, 1) := by decide +kernel
theorem dJ0_length_8abf5_6 : decode cJ0_length_8abf5 6 = .ok (.invokevirtual 335, 3) := by decide +kernel
theorem dJ0_length_8abf5_9 : decode cJ0_length_8abf5 9 = .ok (.ishr, 1) := by decide +kernel
theorem dJ0_length_8abf5_10 : decode cJ0_length_8abf5 10 = .ok (.ireturn, 1) := by decide +kernel
abbrev w_J0_length_8abf5 (E : gs_E) : va_W := []
abbrev rm_J0_length_8abf5 : Room := { frames := 1, cells := 0, slots := 0, locals := 20 }
def f_J0_length_8abf5 (x0 : Nat) : Option (Int32) :=
  gs_b1 (f_J0_coder_7d493 x0) fun r1 =>
  some ((Int32.ofNat (gs_sl x0)) >>> (r1 &&& 31))
set_option maxHeartbeats 4000000 in
set_option maxRecDepth 100000 in
theorem c_J0_length_8abf5 (l : Launch) (E : gs_E) (J : gs_J) (x0 : Nat) (rr : Int32) (h : f_J0_length_8abf5 x0 = some rr) : gs_MRS l yJ0_length_8abf5 wsJ0_length_8abf5 rm_J0_length_8abf5 [.ref (J.2.1 x0)] E J (w_J0_length_8abf5 E ) (some (.int rr)) := by
  refine Met.ofW (cc := cJ0_length_8abf5) (maxL := 1) (ret := (some .int)) (by decide) rfl ?_
  intro p e s m args below meth c s₁ B hml hv
  obtain ⟨rfl, hP, hk, hD0, hAm⟩ := hv
  have X0 : gs_X wsJ0_length_8abf5 cJ0_length_8abf5 RJ0 1 (some .int) p s m ([.ref (J.2.1 x0)] : List Value).toArray meth c := gs_X.of B hml
  obtain ⟨hx, hb, -, hown, hts, hr, hlk⟩ := id X0
  have hD := hD0
  have hret : ∀ (pc : Nat) (ls : Array Slot), decode cJ0_length_8abf5 pc = .ok (.ireturn, 1) → W p l e rm_J0_length_8abf5 s m ([.ref (J.2.1 x0)] : List Value).toArray below meth c s.heap [] 0 0 (MQ below (gs_QR (some (.int rr))) ([.ref (J.2.1 x0)] : List Value).toArray s 0 0 (fun _ => False)) (F0 m pc ls [.int rr]) := fun pc ls hd => W.iret hx hb hr (fun t ht hW => ⟨rfl, ht⟩) (fun q hq => by cases hq) hd
  have hl := lv_entry ([.ref (J.2.1 x0)]) (n := 1) (Nat.le_of_ble_eq_true rfl)
  rw [lg_entry_eq]
  generalize (lg_sl ([.ref (J.2.1 x0)]) ++ List.replicate (1 - (lg_sl ([.ref (J.2.1 x0)])).length) Slot.unset).toArray = ls at hl ⊢
  have hl : lv_has ls 1 [(0, .ref (J.2.1 x0))] := hl
  unfold f_J0_length_8abf5 at h
  refine lv_aload_n hx hb dJ0_length_8abf5_0 rfl (lv_at hl 0 rfl) ?_
  refine vk_getf hx hb (hAm.1 x0).2.2.1 va_S.rf hown (hts (.fieldLink RJ0 9 "java/lang/String" "value" "[B") (List.mem_cons_of_mem _ (List.mem_of_getElem? (i := 0) rfl))) (fun _ h9 => h9) dJ0_length_8abf5_1 ?_
  refine va_tlen (v := Int32.ofNat (gs_sl x0)) hx hb (hAm.1 x0).2.2.2 va_S.rf rfl dJ0_length_8abf5_4 ?_
  refine lv_aload_n hx hb dJ0_length_8abf5_5 rfl (lv_at hl 0 rfl) ?_
  obtain ⟨r1, hz1, h⟩ := gs_b1_e h
  refine gs_backRi (va_runV (As := []) (rest := [.int (Int32.ofNat (gs_sl x0))]) ⟨hx, hb, hml, hown, hts⟩ (c_J0_coder_7d493 l E J x0 r1 hz1) (cwV 0 hts gJ0_length_8abf5_J0_coder_7d493 rfl rfl rfl (by decide +kernel) ⟨Nat.le_of_ble_eq_true rfl, Nat.le_of_ble_eq_true rfl⟩) (gs_preVs (i := x0) hk hAm hP hD (fun _ h => h) va_S.rf (is := []) rfl rfl) rfl rfl hl.1 rfl (lv_room (Nat.le_of_ble_eq_true rfl)) dJ0_length_8abf5_6 ⟨Nat.zero_le _, Nat.zero_le _⟩) ?_
  refine lv_ishr hx hb dJ0_length_8abf5_9 ?_
  have h := Option.some.inj h
  subst h
  exact hret _ _ dJ0_length_8abf5_10

theorem dJ0_isLatin1_aae02_0 : decode cJ0_isLatin1_aae02 0 = .ok (.getstatic 38, 3) := by decide +kernel
theorem dJ0_isLatin1_aae02_3 : decode cJ0_isLatin1_aae02 3 = .ok (.ifCond .eq 14, 3) := by decide +kernel
theorem dJ0_isLatin1_aae02_6 : decode cJ0_isLatin1_aae02 6 = .ok (.aload_n 0, 1) := by decide +kernel
theorem dJ0_isLatin1_aae02_7 : decode cJ0_isLatin1_aae02 7 = .ok (.getfield 15, 3) := by decide +kernel
theorem dJ0_isLatin1_aae02_10 : decode cJ0_isLatin1_aae02 10 = .ok (.ifCond .ne 7, 3) := by decide +kernel
theorem dJ0_isLatin1_aae02_13 : decode cJ0_isLatin1_aae02 13 = .ok (.iconst 1, 1) := by decide +kernel
theorem dJ0_isLatin1_aae02_14 : decode cJ0_isLatin1_aae02 14 = .ok (.goto 4, 3) := by decide +kernel
theorem dJ0_isLatin1_aae02_17 : decode cJ0_isLatin1_aae02 17 = .ok (.iconst 0, 1) := by decide +kernel
theorem dJ0_isLatin1_aae02_18 : decode cJ0_isLatin1_aae02 18 = .ok (.ireturn, 1) := by decide +kernel
abbrev w_J0_isLatin1_aae02 (E : gs_E) : va_W := []
abbrev rm_J0_isLatin1_aae02 : Room := { frames := 0, cells := 0, slots := 0, locals := 0 }
def f_J0_isLatin1_aae02 (x0 : Nat) : Option (Int32) :=
  if (1 : Int32) = 0 then
    some 0
  else
    if (0 : Int32) = 0 then
      some 1
    else
      some 0
set_option maxHeartbeats 4000000 in
set_option maxRecDepth 100000 in
theorem c_J0_isLatin1_aae02 (l : Launch) (E : gs_E) (J : gs_J) (x0 : Nat) (rr : Int32) (h : f_J0_isLatin1_aae02 x0 = some rr) : gs_MRS l yJ0_isLatin1_aae02 wsJ0_isLatin1_aae02 rm_J0_isLatin1_aae02 [.ref (J.2.1 x0)] E J (w_J0_isLatin1_aae02 E ) (some (.int rr)) := by
  refine Met.ofW (cc := cJ0_isLatin1_aae02) (maxL := 1) (ret := (some .boolean)) (by decide) rfl ?_
  intro p e s m args below meth c s₁ B hml hv
  obtain ⟨rfl, hP, hk, hD0, hAm⟩ := hv
  have X0 : gs_X wsJ0_isLatin1_aae02 cJ0_isLatin1_aae02 RJ0 1 (some .boolean) p s m ([.ref (J.2.1 x0)] : List Value).toArray meth c := gs_X.of B hml
  obtain ⟨hx, hb, -, hown, hts, hr, hlk⟩ := id X0
  have hD := hD0
  have hret : ∀ (pc : Nat) (ls : Array Slot), narrow .boolean (.int rr) = .int rr → decode cJ0_isLatin1_aae02 pc = .ok (.ireturn, 1) → W p l e rm_J0_isLatin1_aae02 s m ([.ref (J.2.1 x0)] : List Value).toArray below meth c s.heap [] 0 0 (MQ below (gs_QR (some (.int rr))) ([.ref (J.2.1 x0)] : List Value).toArray s 0 0 (fun _ => False)) (F0 m pc ls [.int rr]) := fun pc ls hnar hd => W.zret hx hb hr hnar (fun t ht hW => ⟨rfl, ht⟩) (fun q hq => by cases hq) hd
  have hl := lv_entry ([.ref (J.2.1 x0)]) (n := 1) (Nat.le_of_ble_eq_true rfl)
  rw [lg_entry_eq]
  generalize (lg_sl ([.ref (J.2.1 x0)]) ++ List.replicate (1 - (lg_sl ([.ref (J.2.1 x0)])).length) Slot.unset).toArray = ls at hl ⊢
  have hl : lv_has ls 1 [(0, .ref (J.2.1 x0))] := hl
  unfold f_J0_isLatin1_aae02 at h
  refine va_gets hx hb hAm.2.2.1 va_S.rf hown (hts (.fieldLink RJ0 38 "java/lang/String" "COMPACT_STRINGS" "Z") (List.mem_cons_of_mem _ (List.mem_of_getElem? (i := 0) rfl))) (fun _ h9 => h9) dJ0_isLatin1_aae02_0 ?_
  refine lv_if_eq (tgt := 17) hx hb dJ0_isLatin1_aae02_3 (by decide) (fun c1 => ?_) (fun c1 => ?_)
  · replace h := gs_ift c1 h
    refine lv_iconst (v := 0) hx hb dJ0_isLatin1_aae02_17 (by decide) ?_
    have h := Option.some.inj h
    subst h
    exact hret _ _ rfl dJ0_isLatin1_aae02_18
  · replace h := gs_iff c1 h
    refine lv_aload_n hx hb dJ0_isLatin1_aae02_6 rfl (lv_at hl 0 rfl) ?_
    refine vk_getf hx hb (hAm.1 x0).2.1 va_S.rf hown (hts (.fieldLink RJ0 15 "java/lang/String" "coder" "B") (List.mem_cons_of_mem _ (List.mem_of_getElem? (i := 1) rfl))) (fun _ h9 => h9) dJ0_isLatin1_aae02_7 ?_
    refine lv_if_ne (tgt := 17) hx hb dJ0_isLatin1_aae02_10 (by decide) (fun c2 => ?_) (fun c2 => ?_)
    · replace h := gs_iff c2 h
      refine lv_iconst (v := 0) hx hb dJ0_isLatin1_aae02_17 (by decide) ?_
      have h := Option.some.inj h
      subst h
      exact hret _ _ rfl dJ0_isLatin1_aae02_18
    · replace h := gs_ift c2 h
      refine lv_iconst (v := 1) hx hb dJ0_isLatin1_aae02_13 (by decide) ?_
      refine lv_goto (tgt := 18) hx hb dJ0_isLatin1_aae02_14 (by decide) ?_
      have h := Option.some.inj h
      subst h
      exact hret _ _ rfl dJ0_isLatin1_aae02_18

theorem dJ3_checkIndex_8e157_0 : decode cJ3_checkIndex_8e157 0 = .ok (.iload_n 0, 1) := by decide +kernel
theorem dJ3_checkIndex_8e157_1 : decode cJ3_checkIndex_8e157 1 = .ok (.ifCond .lt 8, 3) := by decide +kernel
theorem dJ3_checkIndex_8e157_4 : decode cJ3_checkIndex_8e157 4 = .ok (.iload_n 0, 1) := by decide +kernel
theorem dJ3_checkIndex_8e157_5 : decode cJ3_checkIndex_8e157 5 = .ok (.iload_n 1, 1) := by decide +kernel
theorem dJ3_checkIndex_8e157_6 : decode cJ3_checkIndex_8e157 6 = .ok (.if_icmp .lt 10, 3) := by decide +kernel
theorem dJ3_checkIndex_8e157_9 : decode cJ3_checkIndex_8e157 9 = .ok (.aload_n 2, 1) := by decide +kernel
theorem dJ3_checkIndex_8e157_10 : decode cJ3_checkIndex_8e157 10 = .ok (.iload_n 0, 1) := by decide +kernel
theorem dJ3_checkIndex_8e157_11 : decode cJ3_checkIndex_8e157 11 = .ok (.iload_n 1, 1) := by decide +kernel
theorem dJ3_checkIndex_8e157_12 : decode cJ3_checkIndex_8e157 12 = .ok (.invokestatic 95, 3) := by decide +kernel
theorem dJ3_checkIndex_8e157_15 : decode cJ3_checkIndex_8e157 15 = .ok (.athrow, 1) := by decide +kernel
theorem dJ3_checkIndex_8e157_16 : decode cJ3_checkIndex_8e157 16 = .ok (.iload_n 0, 1) := by decide +kernel
theorem dJ3_checkIndex_8e157_17 : decode cJ3_checkIndex_8e157 17 = .ok (.ireturn, 1) := by decide +kernel
abbrev w_J3_checkIndex_8e157 (E : gs_E) : va_W := []
abbrev rm_J3_checkIndex_8e157 : Room := { frames := 0, cells := 0, slots := 0, locals := 0 }
def f_J3_checkIndex_8e157 (x0 : Int32) (x1 : Int32) : Option (Int32) :=
  if x0 < 0 then
    none
  else
    if x0 < x1 then
      some x0
    else
      none
set_option maxHeartbeats 4000000 in
set_option maxRecDepth 100000 in
theorem c_J3_checkIndex_8e157 (l : Launch) (E : gs_E) (x0 : Int32) (x1 : Int32) (x2 : Option Nat) (rr : Int32) (h : f_J3_checkIndex_8e157 x0 x1 = some rr) : gs_MR l yJ3_checkIndex_8e157 wsJ3_checkIndex_8e157 rm_J3_checkIndex_8e157 [.int x0, .int x1, va_rf x2] E (w_J3_checkIndex_8e157 E ) (some (.int rr)) := by
  cases x2 with
  | none =>
    refine Met.ofW (cc := cJ3_checkIndex_8e157) (maxL := 3) (ret := (some .int)) (by decide) rfl ?_
    intro p e s m args below meth c s₁ B hml hv
    obtain ⟨rfl, hP, hk, hD0⟩ := hv
    have X0 : gs_X wsJ3_checkIndex_8e157 cJ3_checkIndex_8e157 RJ3 3 (some .int) p s m ([.int x0, .int x1, va_rf none] : List Value).toArray meth c := gs_X.of B hml
    obtain ⟨hx, hb, -, hown, hts, hr, hlk⟩ := id X0
    have hD := hD0
    have hret : ∀ (pc : Nat) (ls : Array Slot), decode cJ3_checkIndex_8e157 pc = .ok (.ireturn, 1) → W p l e rm_J3_checkIndex_8e157 s m ([.int x0, .int x1, va_rf none] : List Value).toArray below meth c s.heap [] 0 0 (MQ below (gs_QR (some (.int rr))) ([.int x0, .int x1, va_rf none] : List Value).toArray s 0 0 (fun _ => False)) (F0 m pc ls [.int rr]) := fun pc ls hd => W.iret hx hb hr (fun t ht hW => ⟨rfl, ht⟩) (fun q hq => by cases hq) hd
    have hl := lv_entry ([.int x0, .int x1, va_rf none]) (n := 3) (Nat.le_of_ble_eq_true rfl)
    rw [lg_entry_eq]
    generalize (lg_sl ([.int x0, .int x1, va_rf none]) ++ List.replicate (3 - (lg_sl ([.int x0, .int x1, va_rf none])).length) Slot.unset).toArray = ls at hl ⊢
    have hl : lv_has ls 3 [(0, .int x0), (1, .int x1), (2, va_rf none)] := hl
    unfold f_J3_checkIndex_8e157 at h
    refine lv_iload_n hx hb dJ3_checkIndex_8e157_0 rfl (lv_at hl 0 rfl) ?_
    refine lv_if_lt (tgt := 9) hx hb dJ3_checkIndex_8e157_1 (by decide) (fun c1 => ?_) (fun c1 => ?_)
    · replace h := gs_ift c1 h
      cases h
    · replace h := gs_iff c1 h
      refine lv_iload_n hx hb dJ3_checkIndex_8e157_4 rfl (lv_at hl 0 rfl) ?_
      refine lv_iload_n hx hb dJ3_checkIndex_8e157_5 rfl (lv_at hl 1 rfl) ?_
      refine lv_icmp_lt (tgt := 16) hx hb dJ3_checkIndex_8e157_6 (by decide) (fun c2 => ?_) (fun c2 => ?_)
      · replace h := gs_ift c2 h
        refine lv_iload_n hx hb dJ3_checkIndex_8e157_16 rfl (lv_at hl 0 rfl) ?_
        have h := Option.some.inj h
        subst h
        exact hret _ _ dJ3_checkIndex_8e157_17
      · replace h := gs_iff c2 h
        cases h
  | some q9 =>
    refine Met.ofW (cc := cJ3_checkIndex_8e157) (maxL := 3) (ret := (some .int)) (by decide) rfl ?_
    intro p e s m args below meth c s₁ B hml hv
    obtain ⟨rfl, hP, hk, hD0⟩ := hv
    have X0 : gs_X wsJ3_checkIndex_8e157 cJ3_checkIndex_8e157 RJ3 3 (some .int) p s m ([.int x0, .int x1, va_rf (some q9)] : List Value).toArray meth c := gs_X.of B hml
    obtain ⟨hx, hb, -, hown, hts, hr, hlk⟩ := id X0
    have hD := hD0
    have hret : ∀ (pc : Nat) (ls : Array Slot), decode cJ3_checkIndex_8e157 pc = .ok (.ireturn, 1) → W p l e rm_J3_checkIndex_8e157 s m ([.int x0, .int x1, va_rf (some q9)] : List Value).toArray below meth c s.heap [] 0 0 (MQ below (gs_QR (some (.int rr))) ([.int x0, .int x1, va_rf (some q9)] : List Value).toArray s 0 0 (fun _ => False)) (F0 m pc ls [.int rr]) := fun pc ls hd => W.iret hx hb hr (fun t ht hW => ⟨rfl, ht⟩) (fun q hq => by cases hq) hd
    have hl := lv_entry ([.int x0, .int x1, va_rf (some q9)]) (n := 3) (Nat.le_of_ble_eq_true rfl)
    rw [lg_entry_eq]
    generalize (lg_sl ([.int x0, .int x1, va_rf (some q9)]) ++ List.replicate (3 - (lg_sl ([.int x0, .int x1, va_rf (some q9)])).length) Slot.unset).toArray = ls at hl ⊢
    have hl : lv_has ls 3 [(0, .int x0), (1, .int x1), (2, va_rf (some q9))] := hl
    unfold f_J3_checkIndex_8e157 at h
    refine lv_iload_n hx hb dJ3_checkIndex_8e157_0 rfl (lv_at hl 0 rfl) ?_
    refine lv_if_lt (tgt := 9) hx hb dJ3_checkIndex_8e157_1 (by decide) (fun c1 => ?_) (fun c1 => ?_)
    · replace h := gs_ift c1 h
      cases h
    · replace h := gs_iff c1 h
      refine lv_iload_n hx hb dJ3_checkIndex_8e157_4 rfl (lv_at hl 0 rfl) ?_
      refine lv_iload_n hx hb dJ3_checkIndex_8e157_5 rfl (lv_at hl 1 rfl) ?_
      refine lv_icmp_lt (tgt := 16) hx hb dJ3_checkIndex_8e157_6 (by decide) (fun c2 => ?_) (fun c2 => ?_)
      · replace h := gs_ift c2 h
        refine lv_iload_n hx hb dJ3_checkIndex_8e157_16 rfl (lv_at hl 0 rfl) ?_
        have h := Option.some.inj h
        subst h
        exact hret _ _ dJ3_checkIndex_8e157_17
      · replace h := gs_iff c2 h
        cases h

set_option maxRecDepth 100000 in
theorem ggJ0_checkIndex_df160_J3_checkIndex_8e157 : GoodIn wsJ0_checkIndex_df160 wsJ3_checkIndex_8e157 := goodIn_r _ [5] rfl (by decide +kernel)
set_option maxRecDepth 100000 in
theorem gJ0_checkIndex_df160_J3_checkIndex_8e157 : GoodIn wsJ0_checkIndex_df160 (va_wsS RJ0 1059 yJ3_checkIndex_8e157 wsJ3_checkIndex_8e157) := goodIn_app (goodIn_of _ (by decide +kernel)) ggJ0_checkIndex_df160_J3_checkIndex_8e157
theorem dJ0_checkIndex_df160_0 : decode cJ0_checkIndex_df160 0 = .ok (.iload_n 0, 1) := by decide +kernel
theorem dJ0_checkIndex_df160_1 : decode cJ0_checkIndex_df160 1 = .ok (.iload_n 1, 1) := by decide +kernel
theorem dJ0_checkIndex_df160_2 : decode cJ0_checkIndex_df160 2 = .ok (.getstatic 1053, 3) := by decide +kernel
theorem dJ0_checkIndex_df160_5 : decode cJ0_checkIndex_df160 5 = .ok (.invokestatic 1059, 3) := by decide +kernel
theorem dJ0_checkIndex_df160_8 : decode cJ0_checkIndex_df160 8 = .ok (.pop, 1) := by decide +kernel
theorem dJ0_checkIndex_df160_9 : decode cJ0_checkIndex_df160 9 = .ok (.return_, 1) := by decide +kernel
abbrev w_J0_checkIndex_df160 (E : gs_E) : va_W := []
abbrev rm_J0_checkIndex_df160 : Room := { frames := 1, cells := 0, slots := 0, locals := 22 }
def f_J0_checkIndex_df160 (x0 : Int32) (x1 : Int32) : Option (Unit) :=
  gs_b1 (f_J3_checkIndex_8e157 x0 x1) fun r1 =>
  some ()
set_option maxHeartbeats 4000000 in
set_option maxRecDepth 100000 in
theorem c_J0_checkIndex_df160 (l : Launch) (E : gs_E) (J : gs_J) (x0 : Int32) (x1 : Int32) (h : f_J0_checkIndex_df160 x0 x1 = some ()) : gs_MRS l yJ0_checkIndex_df160 wsJ0_checkIndex_df160 rm_J0_checkIndex_df160 [.int x0, .int x1] E J (w_J0_checkIndex_df160 E ) none := by
  refine Met.ofW (cc := cJ0_checkIndex_df160) (maxL := 2) (ret := none) (by decide) rfl ?_
  intro p e s m args below meth c s₁ B hml hv
  obtain ⟨rfl, hP, hk, hD0, hAm⟩ := hv
  have X0 : gs_X wsJ0_checkIndex_df160 cJ0_checkIndex_df160 RJ0 2 none p s m ([.int x0, .int x1] : List Value).toArray meth c := gs_X.of B hml
  obtain ⟨hx, hb, -, hown, hts, hr, hlk⟩ := id X0
  have hD := hD0
  have hret : ∀ (pc : Nat) (ls : Array Slot), decode cJ0_checkIndex_df160 pc = .ok (.return_, 1) → W p l e rm_J0_checkIndex_df160 s m ([.int x0, .int x1] : List Value).toArray below meth c s.heap [] 0 0 (MQ below (gs_QR none) ([.int x0, .int x1] : List Value).toArray s 0 0 (fun _ => False)) (F0 m pc ls []) := fun pc ls hd => W.vret hx hb hr (fun t ht hW => ⟨rfl, ht⟩) (fun q hq => by cases hq) hd
  have hl := lv_entry ([.int x0, .int x1]) (n := 2) (Nat.le_of_ble_eq_true rfl)
  rw [lg_entry_eq]
  generalize (lg_sl ([.int x0, .int x1]) ++ List.replicate (2 - (lg_sl ([.int x0, .int x1])).length) Slot.unset).toArray = ls at hl ⊢
  have hl : lv_has ls 2 [(0, .int x0), (1, .int x1)] := hl
  unfold f_J0_checkIndex_df160 at h
  refine lv_iload_n hx hb dJ0_checkIndex_df160_0 rfl (lv_at hl 0 rfl) ?_
  refine lv_iload_n hx hb dJ0_checkIndex_df160_1 rfl (lv_at hl 1 rfl) ?_
  refine va_gets hx hb hAm.2.2.2.1 va_S.rf hown (hts (.fieldLink RJ0 1053 "jdk/internal/util/Preconditions" "SIOOBE_FORMATTER" "Ljava/util/function/BiFunction;") (List.mem_cons_of_mem _ (List.mem_of_getElem? (i := 0) rfl))) (fun _ h9 => h9) dJ0_checkIndex_df160_2 ?_
  obtain ⟨r1, hz1, h⟩ := gs_b1_e h
  refine gs_backRi (va_runS (As := [.int x0, .int x1, va_rf J.2.2.2]) (rest := []) ⟨hx, hb, hml, hown, hts⟩ (c_J3_checkIndex_8e157 l E x0 x1 J.2.2.2 r1 hz1) (va_cwS 3 hts gJ0_checkIndex_df160_J3_checkIndex_8e157 rfl rfl rfl (by decide +kernel) ⟨Nat.le_of_ble_eq_true rfl, Nat.le_of_ble_eq_true rfl⟩) (gs_pre hk hP hD (is := []) rfl rfl) rfl rfl hl.1 rfl (lv_room (Nat.le_of_ble_eq_true rfl)) dJ0_checkIndex_df160_5 ⟨Nat.zero_le _, Nat.zero_le _⟩) ?_
  refine lv_pop hx hb dJ0_checkIndex_df160_8 rfl ?_
  exact hret _ _ dJ0_checkIndex_df160_9

set_option maxRecDepth 100000 in
theorem ggJ1_charAt_3b067_J0_checkIndex_df160 : GoodIn wsJ1_charAt_3b067 wsJ0_checkIndex_df160 := goodIn_r _ [4, 5, 6, 7, 8, 9] rfl (by decide +kernel)
set_option maxRecDepth 100000 in
theorem gJ1_charAt_3b067_J0_checkIndex_df160 : GoodIn wsJ1_charAt_3b067 (va_wsS RJ1 9 yJ0_checkIndex_df160 wsJ0_checkIndex_df160) := goodIn_app (goodIn_of _ (by decide +kernel)) ggJ1_charAt_3b067_J0_checkIndex_df160
theorem dJ1_charAt_3b067_0 : decode cJ1_charAt_3b067 0 = .ok (.iload_n 1, 1) := by decide +kernel
theorem dJ1_charAt_3b067_1 : decode cJ1_charAt_3b067 1 = .ok (.aload_n 0, 1) := by decide +kernel
theorem dJ1_charAt_3b067_2 : decode cJ1_charAt_3b067 2 = .ok (.arraylength, 1) := by decide +kernel
theorem dJ1_charAt_3b067_3 : decode cJ1_charAt_3b067 3 = .ok (.invokestatic 9, 3) := by decide +kernel
theorem dJ1_charAt_3b067_6 : decode cJ1_charAt_3b067 6 = .ok (.aload_n 0, 1) := by decide +kernel
theorem dJ1_charAt_3b067_7 : decode cJ1_charAt_3b067 7 = .ok (.iload_n 1, 1) := by decide +kernel
theorem dJ1_charAt_3b067_8 : decode cJ1_charAt_3b067 8 = .ok (.baload, 1) := by decide +kernel
theorem dJ1_charAt_3b067_9 : decode cJ1_charAt_3b067 9 = .ok (.sipush 255, 3) := by decide +kernel
theorem dJ1_charAt_3b067_12 : decode cJ1_charAt_3b067 12 = .ok (.iand, 1) := by decide +kernel
theorem dJ1_charAt_3b067_13 : decode cJ1_charAt_3b067 13 = .ok (.i2c, 1) := by decide +kernel
theorem dJ1_charAt_3b067_14 : decode cJ1_charAt_3b067 14 = .ok (.ireturn, 1) := by decide +kernel
abbrev w_J1_charAt_3b067 (E : gs_E) : va_W := []
abbrev rm_J1_charAt_3b067 : Room := { frames := 2, cells := 0, slots := 0, locals := 43 }
def f_J1_charAt_3b067 (x0 : Nat) (x1 : Int32) : Option (Int32) :=
  gs_b1 (f_J0_checkIndex_df160 x1 (Int32.ofNat (gs_sl x0))) fun _ =>
  gs_gd (gs_in x1 (gs_sl x0)) <|
  gs_gd (gs_cz ((((gs_sc x0 x1.toNatClampNeg) &&& 255).toUInt32 % 65536).toInt32)) <|
  some ((((gs_sc x0 x1.toNatClampNeg) &&& 255).toUInt32 % 65536).toInt32)
set_option maxHeartbeats 4000000 in
set_option maxRecDepth 100000 in
theorem c_J1_charAt_3b067 (l : Launch) (E : gs_E) (J : gs_J) (x0 : Nat) (x1 : Int32) (rr : Int32) (h : f_J1_charAt_3b067 x0 x1 = some rr) : gs_MRS l yJ1_charAt_3b067 wsJ1_charAt_3b067 rm_J1_charAt_3b067 [.ref (J.2.2.1 x0), .int x1] E J (w_J1_charAt_3b067 E ) (some (.int rr)) := by
  refine Met.ofW (cc := cJ1_charAt_3b067) (maxL := 2) (ret := (some .char)) (by decide) rfl ?_
  intro p e s m args below meth c s₁ B hml hv
  obtain ⟨rfl, hP, hk, hD0, hAm⟩ := hv
  have X0 : gs_X wsJ1_charAt_3b067 cJ1_charAt_3b067 RJ1 2 (some .char) p s m ([.ref (J.2.2.1 x0), .int x1] : List Value).toArray meth c := gs_X.of B hml
  obtain ⟨hx, hb, -, hown, hts, hr, hlk⟩ := id X0
  have hD := hD0
  have hret : ∀ (pc : Nat) (ls : Array Slot), narrow .char (.int rr) = .int rr → decode cJ1_charAt_3b067 pc = .ok (.ireturn, 1) → W p l e rm_J1_charAt_3b067 s m ([.ref (J.2.2.1 x0), .int x1] : List Value).toArray below meth c s.heap [] 0 0 (MQ below (gs_QR (some (.int rr))) ([.ref (J.2.2.1 x0), .int x1] : List Value).toArray s 0 0 (fun _ => False)) (F0 m pc ls [.int rr]) := fun pc ls hnar hd => W.zret hx hb hr hnar (fun t ht hW => ⟨rfl, ht⟩) (fun q hq => by cases hq) hd
  have hl := lv_entry ([.ref (J.2.2.1 x0), .int x1]) (n := 2) (Nat.le_of_ble_eq_true rfl)
  rw [lg_entry_eq]
  generalize (lg_sl ([.ref (J.2.2.1 x0), .int x1]) ++ List.replicate (2 - (lg_sl ([.ref (J.2.2.1 x0), .int x1])).length) Slot.unset).toArray = ls at hl ⊢
  have hl : lv_has ls 2 [(0, .ref (J.2.2.1 x0)), (1, .int x1)] := hl
  unfold f_J1_charAt_3b067 at h
  refine lv_iload_n hx hb dJ1_charAt_3b067_0 rfl (lv_at hl 1 rfl) ?_
  refine lv_aload_n hx hb dJ1_charAt_3b067_1 rfl (lv_at hl 0 rfl) ?_
  refine va_tlen (v := Int32.ofNat (gs_sl x0)) hx hb (hAm.1 x0).2.2.2 va_S.rf rfl dJ1_charAt_3b067_2 ?_
  obtain ⟨u1, hz1, h⟩ := gs_b1_e h
  refine gs_backRv (va_runS (As := [.int x1, .int (Int32.ofNat (gs_sl x0))]) (rest := []) ⟨hx, hb, hml, hown, hts⟩ (c_J0_checkIndex_df160 l E J x1 (Int32.ofNat (gs_sl x0)) hz1) (va_cwS 2 hts gJ1_charAt_3b067_J0_checkIndex_df160 rfl rfl rfl (by decide +kernel) ⟨Nat.le_of_ble_eq_true rfl, Nat.le_of_ble_eq_true rfl⟩) (gs_preS hk hAm hP hD (fun _ h => h) va_S.rf (is := []) rfl rfl) rfl rfl hl.1 rfl (lv_room (Nat.le_of_ble_eq_true rfl)) dJ1_charAt_3b067_3 ⟨Nat.zero_le _, Nat.zero_le _⟩) ?_
  refine lv_aload_n hx hb dJ1_charAt_3b067_6 rfl (lv_at hl 0 rfl) ?_
  refine lv_iload_n hx hb dJ1_charAt_3b067_7 rfl (lv_at hl 1 rfl) ?_
  obtain ⟨g2, h⟩ := gs_gd_e h
  refine va_tb (v := .int (gs_sc x0 x1.toNatClampNeg)) hx hb (hAm.1 x0).2.2.2 va_S.rf (gs_in_e g2) rfl dJ1_charAt_3b067_8 ?_
  refine lv_sipush (v := 255) hx hb dJ1_charAt_3b067_9 (by decide) ?_
  refine lv_iand hx hb dJ1_charAt_3b067_12 ?_
  refine lv_i2c (v := (((gs_sc x0 x1.toNatClampNeg) &&& 255).toUInt32 % 65536).toInt32) hx hb dJ1_charAt_3b067_13 rfl ?_
  obtain ⟨g3, h⟩ := gs_gd_e h
  have h := Option.some.inj h
  subst h
  exact hret _ _ (gs_cz_e g3) dJ1_charAt_3b067_14

set_option maxRecDepth 100000 in
theorem ggJ0_charAt_5068e_J0_isLatin1_aae02 : GoodIn wsJ0_charAt_5068e wsJ0_isLatin1_aae02 := goodIn_r _ [6, 7, 8] rfl (by decide +kernel)
set_option maxRecDepth 100000 in
theorem gJ0_charAt_5068e_J0_isLatin1_aae02 : GoodIn wsJ0_charAt_5068e (wsV RJ0 492 RJ0 yJ0_isLatin1_aae02 wsJ0_isLatin1_aae02) := goodIn_app (goodIn_of _ (by decide +kernel)) ggJ0_charAt_5068e_J0_isLatin1_aae02
set_option maxRecDepth 100000 in
theorem ggJ0_charAt_5068e_J1_charAt_3b067 : GoodIn wsJ0_charAt_5068e wsJ1_charAt_3b067 := goodIn_r _ [12, 13, 14, 5, 15, 16, 17, 18, 19, 20] rfl (by decide +kernel)
set_option maxRecDepth 100000 in
theorem gJ0_charAt_5068e_J1_charAt_3b067 : GoodIn wsJ0_charAt_5068e (va_wsS RJ0 495 yJ1_charAt_3b067 wsJ1_charAt_3b067) := goodIn_app (goodIn_of _ (by decide +kernel)) ggJ0_charAt_5068e_J1_charAt_3b067
set_option maxRecDepth 100000 in
theorem ggJ0_charAt_5068e_J2_charAt_3b067 : GoodIn wsJ0_charAt_5068e wsJ2_charAt_3b067 := goodIn_r _ [24, 25, 26, 23, 27, 28, 29, 30, 31, 14, 5, 15, 16, 17, 18, 19, 20, 32, 33, 34, 35, 36, 37] rfl (by decide +kernel)
set_option maxRecDepth 100000 in
theorem gJ0_charAt_5068e_J2_charAt_3b067 : GoodIn wsJ0_charAt_5068e (va_wsS RJ0 498 yJ2_charAt_3b067 wsJ2_charAt_3b067) := goodIn_app (goodIn_of _ (by decide +kernel)) ggJ0_charAt_5068e_J2_charAt_3b067
theorem dJ0_charAt_5068e_0 : decode cJ0_charAt_5068e 0 = .ok (.aload_n 0, 1) := by decide +kernel
theorem dJ0_charAt_5068e_1 : decode cJ0_charAt_5068e 1 = .ok (.invokevirtual 492, 3) := by decide +kernel
theorem dJ0_charAt_5068e_4 : decode cJ0_charAt_5068e 4 = .ok (.ifCond .eq 12, 3) := by decide +kernel
theorem dJ0_charAt_5068e_7 : decode cJ0_charAt_5068e 7 = .ok (.aload_n 0, 1) := by decide +kernel
theorem dJ0_charAt_5068e_8 : decode cJ0_charAt_5068e 8 = .ok (.getfield 9, 3) := by decide +kernel
theorem dJ0_charAt_5068e_11 : decode cJ0_charAt_5068e 11 = .ok (.iload_n 1, 1) := by decide +kernel
theorem dJ0_charAt_5068e_12 : decode cJ0_charAt_5068e 12 = .ok (.invokestatic 495, 3) := by decide +kernel
theorem dJ0_charAt_5068e_15 : decode cJ0_charAt_5068e 15 = .ok (.ireturn, 1) := by decide +kernel
theorem dJ0_charAt_5068e_16 : decode cJ0_charAt_5068e 16 = .ok (.aload_n 0, 1) := by decide +kernel
theorem dJ0_charAt_5068e_17 : decode cJ0_charAt_5068e 17 = .ok (.getfield 9, 3) := by decide +kernel
theorem dJ0_charAt_5068e_20 : decode cJ0_charAt_5068e 20 = .ok (.iload_n 1, 1) := by decide +kernel
theorem dJ0_charAt_5068e_21 : decode cJ0_charAt_5068e 21 = .ok (.invokestatic 498, 3) := by decide +kernel
theorem dJ0_charAt_5068e_24 : decode cJ0_charAt_5068e 24 = .ok (.ireturn, 1) := by decide +kernel
abbrev w_J0_charAt_5068e (E : gs_E) : va_W := []
abbrev rm_J0_charAt_5068e : Room := { frames := 3, cells := 0, slots := 0, locals := 64 }
def f_J0_charAt_5068e (x0 : Nat) (x1 : Int32) : Option (Int32) :=
  gs_b1 (f_J0_isLatin1_aae02 x0) fun r1 =>
  if r1 = 0 then
    none
  else
    gs_b1 (f_J1_charAt_3b067 x0 x1) fun r3 =>
    gs_gd (gs_cz r3) <|
    some r3
set_option maxHeartbeats 4000000 in
set_option maxRecDepth 100000 in
theorem c_J0_charAt_5068e (l : Launch) (E : gs_E) (J : gs_J) (x0 : Nat) (x1 : Int32) (rr : Int32) (h : f_J0_charAt_5068e x0 x1 = some rr) : gs_MRS l yJ0_charAt_5068e wsJ0_charAt_5068e rm_J0_charAt_5068e [.ref (J.2.1 x0), .int x1] E J (w_J0_charAt_5068e E ) (some (.int rr)) := by
  refine Met.ofW (cc := cJ0_charAt_5068e) (maxL := 2) (ret := (some .char)) (by decide) rfl ?_
  intro p e s m args below meth c s₁ B hml hv
  obtain ⟨rfl, hP, hk, hD0, hAm⟩ := hv
  have X0 : gs_X wsJ0_charAt_5068e cJ0_charAt_5068e RJ0 2 (some .char) p s m ([.ref (J.2.1 x0), .int x1] : List Value).toArray meth c := gs_X.of B hml
  obtain ⟨hx, hb, -, hown, hts, hr, hlk⟩ := id X0
  have hD := hD0
  have hret : ∀ (pc : Nat) (ls : Array Slot), narrow .char (.int rr) = .int rr → decode cJ0_charAt_5068e pc = .ok (.ireturn, 1) → W p l e rm_J0_charAt_5068e s m ([.ref (J.2.1 x0), .int x1] : List Value).toArray below meth c s.heap [] 0 0 (MQ below (gs_QR (some (.int rr))) ([.ref (J.2.1 x0), .int x1] : List Value).toArray s 0 0 (fun _ => False)) (F0 m pc ls [.int rr]) := fun pc ls hnar hd => W.zret hx hb hr hnar (fun t ht hW => ⟨rfl, ht⟩) (fun q hq => by cases hq) hd
  have hl := lv_entry ([.ref (J.2.1 x0), .int x1]) (n := 2) (Nat.le_of_ble_eq_true rfl)
  rw [lg_entry_eq]
  generalize (lg_sl ([.ref (J.2.1 x0), .int x1]) ++ List.replicate (2 - (lg_sl ([.ref (J.2.1 x0), .int x1])).length) Slot.unset).toArray = ls at hl ⊢
  have hl : lv_has ls 2 [(0, .ref (J.2.1 x0)), (1, .int x1)] := hl
  unfold f_J0_charAt_5068e at h
  refine lv_aload_n hx hb dJ0_charAt_5068e_0 rfl (lv_at hl 0 rfl) ?_
  obtain ⟨r1, hz1, h⟩ := gs_b1_e h
  refine gs_backRi (va_runV (As := []) (rest := []) ⟨hx, hb, hml, hown, hts⟩ (c_J0_isLatin1_aae02 l E J x0 r1 hz1) (cwV 0 hts gJ0_charAt_5068e_J0_isLatin1_aae02 rfl rfl rfl (by decide +kernel) ⟨Nat.le_of_ble_eq_true rfl, Nat.le_of_ble_eq_true rfl⟩) (gs_preVs (i := x0) hk hAm hP hD (fun _ h => h) va_S.rf (is := []) rfl rfl) rfl rfl hl.1 rfl (lv_room (Nat.le_of_ble_eq_true rfl)) dJ0_charAt_5068e_1 ⟨Nat.zero_le _, Nat.zero_le _⟩) ?_
  refine lv_if_eq (tgt := 16) hx hb dJ0_charAt_5068e_4 (by decide) (fun c2 => ?_) (fun c2 => ?_)
  · replace h := gs_ift c2 h
    cases h
  · replace h := gs_iff c2 h
    refine lv_aload_n hx hb dJ0_charAt_5068e_7 rfl (lv_at hl 0 rfl) ?_
    refine vk_getf hx hb (hAm.1 x0).2.2.1 va_S.rf hown (hts (.fieldLink RJ0 9 "java/lang/String" "value" "[B") (List.mem_cons_of_mem _ (List.mem_append_left _ (List.mem_of_getElem? (i := 0) rfl)))) (fun _ h9 => h9) dJ0_charAt_5068e_8 ?_
    refine lv_iload_n hx hb dJ0_charAt_5068e_11 rfl (lv_at hl 1 rfl) ?_
    obtain ⟨r3, hz3, h⟩ := gs_b1_e h
    refine gs_backRi (va_runS (As := [.ref (J.2.2.1 x0), .int x1]) (rest := []) ⟨hx, hb, hml, hown, hts⟩ (c_J1_charAt_3b067 l E J x0 x1 r3 hz3) (va_cwS 2 hts gJ0_charAt_5068e_J1_charAt_3b067 rfl rfl rfl (by decide +kernel) ⟨Nat.le_of_ble_eq_true rfl, Nat.le_of_ble_eq_true rfl⟩) (gs_preS hk hAm hP hD (fun _ h => h) va_S.rf (is := []) rfl rfl) rfl rfl hl.1 rfl (lv_room (Nat.le_of_ble_eq_true rfl)) dJ0_charAt_5068e_12 ⟨Nat.zero_le _, Nat.zero_le _⟩) ?_
    obtain ⟨g4, h⟩ := gs_gd_e h
    have h := Option.some.inj h
    subst h
    exact hret _ _ (gs_cz_e g4) dJ0_charAt_5068e_15

theorem dJ1_canEncode_9a6ad_0 : decode cJ1_canEncode_9a6ad 0 = .ok (.iload_n 0, 1) := by decide +kernel
theorem dJ1_canEncode_9a6ad_1 : decode cJ1_canEncode_9a6ad 1 = .ok (.ifCond .lt 14, 3) := by decide +kernel
theorem dJ1_canEncode_9a6ad_4 : decode cJ1_canEncode_9a6ad 4 = .ok (.iload_n 0, 1) := by decide +kernel
theorem dJ1_canEncode_9a6ad_5 : decode cJ1_canEncode_9a6ad 5 = .ok (.sipush 255, 3) := by decide +kernel
theorem dJ1_canEncode_9a6ad_8 : decode cJ1_canEncode_9a6ad 8 = .ok (.if_icmp .gt 7, 3) := by decide +kernel
theorem dJ1_canEncode_9a6ad_11 : decode cJ1_canEncode_9a6ad 11 = .ok (.iconst 1, 1) := by decide +kernel
theorem dJ1_canEncode_9a6ad_12 : decode cJ1_canEncode_9a6ad 12 = .ok (.goto 4, 3) := by decide +kernel
theorem dJ1_canEncode_9a6ad_15 : decode cJ1_canEncode_9a6ad 15 = .ok (.iconst 0, 1) := by decide +kernel
theorem dJ1_canEncode_9a6ad_16 : decode cJ1_canEncode_9a6ad 16 = .ok (.ireturn, 1) := by decide +kernel
abbrev w_J1_canEncode_9a6ad (E : gs_E) : va_W := []
abbrev rm_J1_canEncode_9a6ad : Room := { frames := 0, cells := 0, slots := 0, locals := 0 }
def f_J1_canEncode_9a6ad (x0 : Int32) : Option (Int32) :=
  if x0 < 0 then
    some 0
  else
    if 255 < x0 then
      some 0
    else
      some 1
set_option maxHeartbeats 4000000 in
set_option maxRecDepth 100000 in
theorem c_J1_canEncode_9a6ad (l : Launch) (E : gs_E) (x0 : Int32) (rr : Int32) (h : f_J1_canEncode_9a6ad x0 = some rr) : gs_MR l yJ1_canEncode_9a6ad wsJ1_canEncode_9a6ad rm_J1_canEncode_9a6ad [.int x0] E (w_J1_canEncode_9a6ad E ) (some (.int rr)) := by
  refine Met.ofW (cc := cJ1_canEncode_9a6ad) (maxL := 1) (ret := (some .boolean)) (by decide) rfl ?_
  intro p e s m args below meth c s₁ B hml hv
  obtain ⟨rfl, hP, hk, hD0⟩ := hv
  have X0 : gs_X wsJ1_canEncode_9a6ad cJ1_canEncode_9a6ad RJ1 1 (some .boolean) p s m ([.int x0] : List Value).toArray meth c := gs_X.of B hml
  obtain ⟨hx, hb, -, hown, hts, hr, hlk⟩ := id X0
  have hD := hD0
  have hret : ∀ (pc : Nat) (ls : Array Slot), narrow .boolean (.int rr) = .int rr → decode cJ1_canEncode_9a6ad pc = .ok (.ireturn, 1) → W p l e rm_J1_canEncode_9a6ad s m ([.int x0] : List Value).toArray below meth c s.heap [] 0 0 (MQ below (gs_QR (some (.int rr))) ([.int x0] : List Value).toArray s 0 0 (fun _ => False)) (F0 m pc ls [.int rr]) := fun pc ls hnar hd => W.zret hx hb hr hnar (fun t ht hW => ⟨rfl, ht⟩) (fun q hq => by cases hq) hd
  have hl := lv_entry ([.int x0]) (n := 1) (Nat.le_of_ble_eq_true rfl)
  rw [lg_entry_eq]
  generalize (lg_sl ([.int x0]) ++ List.replicate (1 - (lg_sl ([.int x0])).length) Slot.unset).toArray = ls at hl ⊢
  have hl : lv_has ls 1 [(0, .int x0)] := hl
  unfold f_J1_canEncode_9a6ad at h
  refine lv_iload_n hx hb dJ1_canEncode_9a6ad_0 rfl (lv_at hl 0 rfl) ?_
  refine lv_if_lt (tgt := 15) hx hb dJ1_canEncode_9a6ad_1 (by decide) (fun c1 => ?_) (fun c1 => ?_)
  · replace h := gs_ift c1 h
    refine lv_iconst (v := 0) hx hb dJ1_canEncode_9a6ad_15 (by decide) ?_
    have h := Option.some.inj h
    subst h
    exact hret _ _ rfl dJ1_canEncode_9a6ad_16
  · replace h := gs_iff c1 h
    refine lv_iload_n hx hb dJ1_canEncode_9a6ad_4 rfl (lv_at hl 0 rfl) ?_
    refine lv_sipush (v := 255) hx hb dJ1_canEncode_9a6ad_5 (by decide) ?_
    refine lv_icmp_gt (tgt := 15) hx hb dJ1_canEncode_9a6ad_8 (by decide) (fun c2 => ?_) (fun c2 => ?_)
    · replace h := gs_ift c2 h
      refine lv_iconst (v := 0) hx hb dJ1_canEncode_9a6ad_15 (by decide) ?_
      have h := Option.some.inj h
      subst h
      exact hret _ _ rfl dJ1_canEncode_9a6ad_16
    · replace h := gs_iff c2 h
      refine lv_iconst (v := 1) hx hb dJ1_canEncode_9a6ad_11 (by decide) ?_
      refine lv_goto (tgt := 16) hx hb dJ1_canEncode_9a6ad_12 (by decide) ?_
      have h := Option.some.inj h
      subst h
      exact hret _ _ rfl dJ1_canEncode_9a6ad_16

theorem dJ1_indexOfChar_4cfef_0 : decode cJ1_indexOfChar_4cfef 0 = .ok (.iload_n 1, 1) := by decide +kernel
theorem dJ1_indexOfChar_4cfef_1 : decode cJ1_indexOfChar_4cfef 1 = .ok (.i2b, 1) := by decide +kernel
theorem dJ1_indexOfChar_4cfef_2 : decode cJ1_indexOfChar_4cfef 2 = .ok (.istore 4, 2) := by decide +kernel
theorem dJ1_indexOfChar_4cfef_4 : decode cJ1_indexOfChar_4cfef 4 = .ok (.iload_n 2, 1) := by decide +kernel
theorem dJ1_indexOfChar_4cfef_5 : decode cJ1_indexOfChar_4cfef 5 = .ok (.istore 5, 2) := by decide +kernel
theorem dJ1_indexOfChar_4cfef_7 : decode cJ1_indexOfChar_4cfef 7 = .ok (.iload 5, 2) := by decide +kernel
theorem dJ1_indexOfChar_4cfef_9 : decode cJ1_indexOfChar_4cfef 9 = .ok (.iload_n 3, 1) := by decide +kernel
theorem dJ1_indexOfChar_4cfef_10 : decode cJ1_indexOfChar_4cfef 10 = .ok (.if_icmp .ge 21, 3) := by decide +kernel
theorem dJ1_indexOfChar_4cfef_13 : decode cJ1_indexOfChar_4cfef 13 = .ok (.aload_n 0, 1) := by decide +kernel
theorem dJ1_indexOfChar_4cfef_14 : decode cJ1_indexOfChar_4cfef 14 = .ok (.iload 5, 2) := by decide +kernel
theorem dJ1_indexOfChar_4cfef_16 : decode cJ1_indexOfChar_4cfef 16 = .ok (.baload, 1) := by decide +kernel
theorem dJ1_indexOfChar_4cfef_17 : decode cJ1_indexOfChar_4cfef 17 = .ok (.iload 4, 2) := by decide +kernel
theorem dJ1_indexOfChar_4cfef_19 : decode cJ1_indexOfChar_4cfef 19 = .ok (.if_icmp .ne 6, 3) := by decide +kernel
theorem dJ1_indexOfChar_4cfef_22 : decode cJ1_indexOfChar_4cfef 22 = .ok (.iload 5, 2) := by decide +kernel
theorem dJ1_indexOfChar_4cfef_24 : decode cJ1_indexOfChar_4cfef 24 = .ok (.ireturn, 1) := by decide +kernel
theorem dJ1_indexOfChar_4cfef_25 : decode cJ1_indexOfChar_4cfef 25 = .ok (.iinc 5 1, 3) := by decide +kernel
theorem dJ1_indexOfChar_4cfef_28 : decode cJ1_indexOfChar_4cfef 28 = .ok (.goto (-21), 3) := by decide +kernel
theorem dJ1_indexOfChar_4cfef_31 : decode cJ1_indexOfChar_4cfef 31 = .ok (.iconst (-1), 1) := by decide +kernel
theorem dJ1_indexOfChar_4cfef_32 : decode cJ1_indexOfChar_4cfef 32 = .ok (.ireturn, 1) := by decide +kernel
abbrev w_J1_indexOfChar_4cfef (E : gs_E) : va_W := []
abbrev rm_J1_indexOfChar_4cfef : Room := { frames := 0, cells := 0, slots := 0, locals := 0 }
def S_J1_indexOfChar_4cfef_7 (p : Program) (l : Launch) (e : Env) (s : State) (m : MethodId) (args : Array Value) (below : List Frame) (meth : Method) (c : Code) (Q : State → Prop) (J : gs_J) (x0 : Nat) (x3 : Int32) (x4 : Int32) (x5 : Int32) : Prop := ∀ (ls : Array Slot), lv_has ls 6 [(0, .ref (J.2.2.1 x0)), (3, .int x3), (4, .int x4), (5, .int x5)] → W p l e rm_J1_indexOfChar_4cfef s m args below meth c s.heap [] 0 0 Q (F0 m 7 ls [])
def f_J1_indexOfChar_4cfef_7 (x0 : Nat) (x3 : Int32) (x4 : Int32) (K7 : Int32 → Option (Int32)) (x5 : Int32) : Option (Int32) :=
  if x3 ≤ x5 then
    some (-1)
  else
    gs_gd (gs_in x5 (gs_sl x0)) <|
    if (gs_sc x0 x5.toNatClampNeg) = x4 then
      some x5
    else
      K7 (x5 + 1)
set_option maxHeartbeats 4000000 in
set_option maxRecDepth 100000 in
theorem t_J1_indexOfChar_4cfef_7_b {p : Program} {l : Launch} {e : Env} {s : State} {m : MethodId} {args : Array Value} {below : List Frame} {meth : Method} {c : Code} {Q : State → Prop} {E : gs_E} {J : gs_J} {rr : Int32} (X0 : gs_X wsJ1_indexOfChar_4cfef cJ1_indexOfChar_4cfef RJ1 6 (some .int) p s m args meth c) (hk : gs_K E s) (hAm : gs_Amb J s) (hP : va_P E.1 vwCl (w_J1_indexOfChar_4cfef E ) s.heap) (hD : va_D (gs_B J) (w_J1_indexOfChar_4cfef E )) {x0 : Nat} {x3 : Int32} {x4 : Int32} {x5 : Int32} (hret : ∀ (pc : Nat) (ls : Array Slot), decode cJ1_indexOfChar_4cfef pc = .ok (.ireturn, 1) → W p l e rm_J1_indexOfChar_4cfef s m args below meth c s.heap [] 0 0 Q (F0 m pc ls [.int rr])) {K7 : Int32 → Option (Int32)} (hK7 : ∀ (x5 : Int32), K7 x5 = some rr → S_J1_indexOfChar_4cfef_7 p l e s m args below meth c Q J  x0 x3 x4 x5) (h : f_J1_indexOfChar_4cfef_7 x0 x3 x4 K7 x5 = some rr) : S_J1_indexOfChar_4cfef_7 p l e s m args below meth c Q J  x0 x3 x4 x5 := by
  obtain ⟨hx, hb, hml, hown, hts, hr, hlk⟩ := id X0
  intro ls hl
  unfold f_J1_indexOfChar_4cfef_7 at h
  refine lv_iload hx hb dJ1_indexOfChar_4cfef_7 (lv_at hl 3 rfl) ?_
  refine lv_iload_n hx hb dJ1_indexOfChar_4cfef_9 rfl (lv_at hl 1 rfl) ?_
  refine lv_icmp_ge (tgt := 31) hx hb dJ1_indexOfChar_4cfef_10 (by decide) (fun c1 => ?_) (fun c1 => ?_)
  · replace h := gs_ift c1 h
    refine lv_iconst (v := (-1)) hx hb dJ1_indexOfChar_4cfef_31 (by decide) ?_
    have h := Option.some.inj h
    subst h
    exact hret _ _ dJ1_indexOfChar_4cfef_32
  · replace h := gs_iff c1 h
    refine lv_aload_n hx hb dJ1_indexOfChar_4cfef_13 rfl (lv_at hl 0 rfl) ?_
    refine lv_iload hx hb dJ1_indexOfChar_4cfef_14 (lv_at hl 3 rfl) ?_
    obtain ⟨g2, h⟩ := gs_gd_e h
    refine va_tb (v := .int (gs_sc x0 x5.toNatClampNeg)) hx hb (hAm.1 x0).2.2.2 va_S.rf (gs_in_e g2) rfl dJ1_indexOfChar_4cfef_16 ?_
    refine lv_iload hx hb dJ1_indexOfChar_4cfef_17 (lv_at hl 2 rfl) ?_
    refine lv_icmp_ne (tgt := 25) hx hb dJ1_indexOfChar_4cfef_19 (by decide) (fun c3 => ?_) (fun c3 => ?_)
    · replace h := gs_iff c3 h
      refine lv_iinc (v := x5 + 1) (lv' := [(5, .int (x5 + 1)), (0, .ref (J.2.2.1 x0)), (3, .int x3), (4, .int x4)]) hx hb dJ1_indexOfChar_4cfef_25 hl (k := 3) rfl rfl (by decide) rfl (fun ls hl => ?_)
      refine lv_goto (tgt := 7) hx hb dJ1_indexOfChar_4cfef_28 (by decide) ?_
      exact hK7 (x5 + 1) h _ (lv_sub hl [1, 2, 3, 0] rfl)
    · replace h := gs_ift c3 h
      refine lv_iload hx hb dJ1_indexOfChar_4cfef_22 (lv_at hl 3 rfl) ?_
      have h := Option.some.inj h
      subst h
      exact hret _ _ dJ1_indexOfChar_4cfef_24
set_option maxHeartbeats 4000000 in
set_option maxRecDepth 100000 in
theorem t_J1_indexOfChar_4cfef_7_n {p : Program} {l : Launch} {e : Env} {s : State} {m : MethodId} {args : Array Value} {below : List Frame} {meth : Method} {c : Code} {Q : State → Prop} {E : gs_E} {J : gs_J} {rr : Int32} (X0 : gs_X wsJ1_indexOfChar_4cfef cJ1_indexOfChar_4cfef RJ1 6 (some .int) p s m args meth c) (hk : gs_K E s) (hAm : gs_Amb J s) (hP : va_P E.1 vwCl (w_J1_indexOfChar_4cfef E ) s.heap) (hD : va_D (gs_B J) (w_J1_indexOfChar_4cfef E )) {x0 : Nat} {x3 : Int32} {x4 : Int32} (hret : ∀ (pc : Nat) (ls : Array Slot), decode cJ1_indexOfChar_4cfef pc = .ok (.ireturn, 1) → W p l e rm_J1_indexOfChar_4cfef s m args below meth c s.heap [] 0 0 Q (F0 m pc ls [.int rr])) : ∀ (n : Nat) (x5 : Int32), gs_it (fun _ => none) (f_J1_indexOfChar_4cfef_7 x0 x3 x4) n x5 = some rr → S_J1_indexOfChar_4cfef_7 p l e s m args below meth c Q J  x0 x3 x4 x5 := by
  intro n
  induction n with
  | zero =>
    intro x5 h
    have h : (none : Option (Int32)) = some rr := h
    cases h
  | succ n ih =>
    intro x5 h
    exact t_J1_indexOfChar_4cfef_7_b X0 hk hAm hP hD hret  (K7 := gs_it (fun _ => none) (f_J1_indexOfChar_4cfef_7 x0 x3 x4) n) (hK7 := ih) (h := h)
theorem t_J1_indexOfChar_4cfef_7 {p : Program} {l : Launch} {e : Env} {s : State} {m : MethodId} {args : Array Value} {below : List Frame} {meth : Method} {c : Code} {Q : State → Prop} {E : gs_E} {J : gs_J} {rr : Int32} (X0 : gs_X wsJ1_indexOfChar_4cfef cJ1_indexOfChar_4cfef RJ1 6 (some .int) p s m args meth c) (hk : gs_K E s) (hAm : gs_Amb J s) (hP : va_P E.1 vwCl (w_J1_indexOfChar_4cfef E ) s.heap) (hD : va_D (gs_B J) (w_J1_indexOfChar_4cfef E )) {x0 : Nat} {x3 : Int32} {x4 : Int32} {x5 : Int32} (hret : ∀ (pc : Nat) (ls : Array Slot), decode cJ1_indexOfChar_4cfef pc = .ok (.ireturn, 1) → W p l e rm_J1_indexOfChar_4cfef s m args below meth c s.heap [] 0 0 Q (F0 m pc ls [.int rr])) (h : gs_it (fun _ => none) (f_J1_indexOfChar_4cfef_7 x0 x3 x4) gs_fuel x5 = some rr) : S_J1_indexOfChar_4cfef_7 p l e s m args below meth c Q J  x0 x3 x4 x5 :=
  t_J1_indexOfChar_4cfef_7_n X0 hk hAm hP hD hret  gs_fuel x5 h
def f_J1_indexOfChar_4cfef (x0 : Nat) (x1 : Int32) (x2 : Int32) (x3 : Int32) : Option (Int32) :=
  gs_it (fun _ => none) (f_J1_indexOfChar_4cfef_7 x0 x3 x1.toInt8.toInt32) gs_fuel x2
set_option maxHeartbeats 4000000 in
set_option maxRecDepth 100000 in
theorem c_J1_indexOfChar_4cfef (l : Launch) (E : gs_E) (J : gs_J) (x0 : Nat) (x1 : Int32) (x2 : Int32) (x3 : Int32) (rr : Int32) (h : f_J1_indexOfChar_4cfef x0 x1 x2 x3 = some rr) : gs_MRS l yJ1_indexOfChar_4cfef wsJ1_indexOfChar_4cfef rm_J1_indexOfChar_4cfef [.ref (J.2.2.1 x0), .int x1, .int x2, .int x3] E J (w_J1_indexOfChar_4cfef E ) (some (.int rr)) := by
  refine Met.ofW (cc := cJ1_indexOfChar_4cfef) (maxL := 6) (ret := (some .int)) (by decide) rfl ?_
  intro p e s m args below meth c s₁ B hml hv
  obtain ⟨rfl, hP, hk, hD0, hAm⟩ := hv
  have X0 : gs_X wsJ1_indexOfChar_4cfef cJ1_indexOfChar_4cfef RJ1 6 (some .int) p s m ([.ref (J.2.2.1 x0), .int x1, .int x2, .int x3] : List Value).toArray meth c := gs_X.of B hml
  obtain ⟨hx, hb, -, hown, hts, hr, hlk⟩ := id X0
  have hD := hD0
  have hret : ∀ (pc : Nat) (ls : Array Slot), decode cJ1_indexOfChar_4cfef pc = .ok (.ireturn, 1) → W p l e rm_J1_indexOfChar_4cfef s m ([.ref (J.2.2.1 x0), .int x1, .int x2, .int x3] : List Value).toArray below meth c s.heap [] 0 0 (MQ below (gs_QR (some (.int rr))) ([.ref (J.2.2.1 x0), .int x1, .int x2, .int x3] : List Value).toArray s 0 0 (fun _ => False)) (F0 m pc ls [.int rr]) := fun pc ls hd => W.iret hx hb hr (fun t ht hW => ⟨rfl, ht⟩) (fun q hq => by cases hq) hd
  have hl := lv_entry ([.ref (J.2.2.1 x0), .int x1, .int x2, .int x3]) (n := 6) (Nat.le_of_ble_eq_true rfl)
  rw [lg_entry_eq]
  generalize (lg_sl ([.ref (J.2.2.1 x0), .int x1, .int x2, .int x3]) ++ List.replicate (6 - (lg_sl ([.ref (J.2.2.1 x0), .int x1, .int x2, .int x3])).length) Slot.unset).toArray = ls at hl ⊢
  have hl : lv_has ls 6 [(0, .ref (J.2.2.1 x0)), (1, .int x1), (2, .int x2), (3, .int x3)] := hl
  unfold f_J1_indexOfChar_4cfef at h
  refine lv_iload_n hx hb dJ1_indexOfChar_4cfef_0 rfl (lv_at hl 1 rfl) ?_
  refine lv_i2b (v := x1.toInt8.toInt32) hx hb dJ1_indexOfChar_4cfef_1 rfl ?_
  refine lv_istore (lv' := [(4, .int x1.toInt8.toInt32), (0, .ref (J.2.2.1 x0)), (1, .int x1), (2, .int x2), (3, .int x3)]) hx hb dJ1_indexOfChar_4cfef_2 hl (by decide) rfl (fun ls hl => ?_)
  refine lv_iload_n hx hb dJ1_indexOfChar_4cfef_4 rfl (lv_at hl 3 rfl) ?_
  refine lv_istore (lv' := [(5, .int x2), (4, .int x1.toInt8.toInt32), (0, .ref (J.2.2.1 x0)), (1, .int x1), (2, .int x2), (3, .int x3)]) hx hb dJ1_indexOfChar_4cfef_5 hl (by decide) rfl (fun ls hl => ?_)
  exact t_J1_indexOfChar_4cfef_7 X0 hk hAm hP hD hret  (h := h) _ (lv_sub hl [2, 5, 1, 0] rfl)

set_option maxRecDepth 100000 in
theorem ggJ1_indexOf_4cfef_J1_canEncode_9a6ad : GoodIn wsJ1_indexOf_4cfef wsJ1_canEncode_9a6ad := goodIn_r _ [11] rfl (by decide +kernel)
set_option maxRecDepth 100000 in
theorem gJ1_indexOf_4cfef_J1_canEncode_9a6ad : GoodIn wsJ1_indexOf_4cfef (va_wsS RJ1 88 yJ1_canEncode_9a6ad wsJ1_canEncode_9a6ad) := goodIn_app (goodIn_of _ (by decide +kernel)) ggJ1_indexOf_4cfef_J1_canEncode_9a6ad
set_option maxRecDepth 100000 in
theorem ggJ1_indexOf_4cfef_J1_indexOfChar_4cfef : GoodIn wsJ1_indexOf_4cfef wsJ1_indexOfChar_4cfef := goodIn_r _ [14] rfl (by decide +kernel)
set_option maxRecDepth 100000 in
theorem gJ1_indexOf_4cfef_J1_indexOfChar_4cfef : GoodIn wsJ1_indexOf_4cfef (va_wsS RJ1 95 yJ1_indexOfChar_4cfef wsJ1_indexOfChar_4cfef) := goodIn_app (goodIn_of _ (by decide +kernel)) ggJ1_indexOf_4cfef_J1_indexOfChar_4cfef
theorem dJ1_indexOf_4cfef_0 : decode cJ1_indexOf_4cfef 0 = .ok (.iload_n 1, 1) := by decide +kernel
theorem dJ1_indexOf_4cfef_1 : decode cJ1_indexOf_4cfef 1 = .ok (.invokestatic 88, 3) := by decide +kernel
theorem dJ1_indexOf_4cfef_4 : decode cJ1_indexOf_4cfef 4 = .ok (.ifCond .ne 5, 3) := by decide +kernel
theorem dJ1_indexOf_4cfef_7 : decode cJ1_indexOf_4cfef 7 = .ok (.iconst (-1), 1) := by decide +kernel
theorem dJ1_indexOf_4cfef_8 : decode cJ1_indexOf_4cfef 8 = .ok (.ireturn, 1) := by decide +kernel
theorem dJ1_indexOf_4cfef_9 : decode cJ1_indexOf_4cfef 9 = .ok (.iload_n 2, 1) := by decide +kernel
theorem dJ1_indexOf_4cfef_10 : decode cJ1_indexOf_4cfef 10 = .ok (.iconst 0, 1) := by decide +kernel
theorem dJ1_indexOf_4cfef_11 : decode cJ1_indexOf_4cfef 11 = .ok (.invokestatic 92, 3) := by decide +kernel
theorem dJ1_indexOf_4cfef_14 : decode cJ1_indexOf_4cfef 14 = .ok (.istore_n 2, 1) := by decide +kernel
theorem dJ1_indexOf_4cfef_15 : decode cJ1_indexOf_4cfef 15 = .ok (.iload_n 3, 1) := by decide +kernel
theorem dJ1_indexOf_4cfef_16 : decode cJ1_indexOf_4cfef 16 = .ok (.aload_n 0, 1) := by decide +kernel
theorem dJ1_indexOf_4cfef_17 : decode cJ1_indexOf_4cfef 17 = .ok (.arraylength, 1) := by decide +kernel
theorem dJ1_indexOf_4cfef_18 : decode cJ1_indexOf_4cfef 18 = .ok (.invokestatic 38, 3) := by decide +kernel
theorem dJ1_indexOf_4cfef_21 : decode cJ1_indexOf_4cfef 21 = .ok (.istore_n 3, 1) := by decide +kernel
theorem dJ1_indexOf_4cfef_22 : decode cJ1_indexOf_4cfef 22 = .ok (.iload_n 2, 1) := by decide +kernel
theorem dJ1_indexOf_4cfef_23 : decode cJ1_indexOf_4cfef 23 = .ok (.iload_n 3, 1) := by decide +kernel
theorem dJ1_indexOf_4cfef_24 : decode cJ1_indexOf_4cfef 24 = .ok (.if_icmp .lt 5, 3) := by decide +kernel
theorem dJ1_indexOf_4cfef_27 : decode cJ1_indexOf_4cfef 27 = .ok (.iconst (-1), 1) := by decide +kernel
theorem dJ1_indexOf_4cfef_28 : decode cJ1_indexOf_4cfef 28 = .ok (.ireturn, 1) := by decide +kernel
theorem dJ1_indexOf_4cfef_29 : decode cJ1_indexOf_4cfef 29 = .ok (.aload_n 0, 1) := by decide +kernel
theorem dJ1_indexOf_4cfef_30 : decode cJ1_indexOf_4cfef 30 = .ok (.iload_n 1, 1) := by decide +kernel
theorem dJ1_indexOf_4cfef_31 : decode cJ1_indexOf_4cfef 31 = .ok (.iload_n 2, 1) := by decide +kernel
theorem dJ1_indexOf_4cfef_32 : decode cJ1_indexOf_4cfef 32 = .ok (.iload_n 3, 1) := by decide +kernel
theorem dJ1_indexOf_4cfef_33 : decode cJ1_indexOf_4cfef 33 = .ok (.invokestatic 95, 3) := by decide +kernel
theorem dJ1_indexOf_4cfef_36 : decode cJ1_indexOf_4cfef 36 = .ok (.ireturn, 1) := by decide +kernel
abbrev w_J1_indexOf_4cfef (E : gs_E) : va_W := []
abbrev rm_J1_indexOf_4cfef : Room := { frames := 1, cells := 0, slots := 0, locals := 40 }
def f_J1_indexOf_4cfef (x0 : Nat) (x1 : Int32) (x2 : Int32) (x3 : Int32) : Option (Int32) :=
  gs_b1 (f_J1_canEncode_9a6ad x1) fun r1 =>
  if r1 = 0 then
    some (-1)
  else
    if (if x2 < 0 then 0 else x2) < (if (Int32.ofNat (gs_sl x0)) < x3 then (Int32.ofNat (gs_sl x0)) else x3) then
      gs_b1 (f_J1_indexOfChar_4cfef x0 x1 (if x2 < 0 then 0 else x2) (if (Int32.ofNat (gs_sl x0)) < x3 then (Int32.ofNat (gs_sl x0)) else x3)) fun r4 =>
      some r4
    else
      some (-1)
set_option maxHeartbeats 4000000 in
set_option maxRecDepth 100000 in
theorem c_J1_indexOf_4cfef (l : Launch) (E : gs_E) (J : gs_J) (x0 : Nat) (x1 : Int32) (x2 : Int32) (x3 : Int32) (rr : Int32) (h : f_J1_indexOf_4cfef x0 x1 x2 x3 = some rr) : gs_MRS l yJ1_indexOf_4cfef wsJ1_indexOf_4cfef rm_J1_indexOf_4cfef [.ref (J.2.2.1 x0), .int x1, .int x2, .int x3] E J (w_J1_indexOf_4cfef E ) (some (.int rr)) := by
  refine Met.ofW (cc := cJ1_indexOf_4cfef) (maxL := 4) (ret := (some .int)) (by decide) rfl ?_
  intro p e s m args below meth c s₁ B hml hv
  obtain ⟨rfl, hP, hk, hD0, hAm⟩ := hv
  have X0 : gs_X wsJ1_indexOf_4cfef cJ1_indexOf_4cfef RJ1 4 (some .int) p s m ([.ref (J.2.2.1 x0), .int x1, .int x2, .int x3] : List Value).toArray meth c := gs_X.of B hml
  obtain ⟨hx, hb, -, hown, hts, hr, hlk⟩ := id X0
  have hD := hD0
  have hret : ∀ (pc : Nat) (ls : Array Slot), decode cJ1_indexOf_4cfef pc = .ok (.ireturn, 1) → W p l e rm_J1_indexOf_4cfef s m ([.ref (J.2.2.1 x0), .int x1, .int x2, .int x3] : List Value).toArray below meth c s.heap [] 0 0 (MQ below (gs_QR (some (.int rr))) ([.ref (J.2.2.1 x0), .int x1, .int x2, .int x3] : List Value).toArray s 0 0 (fun _ => False)) (F0 m pc ls [.int rr]) := fun pc ls hd => W.iret hx hb hr (fun t ht hW => ⟨rfl, ht⟩) (fun q hq => by cases hq) hd
  have hl := lv_entry ([.ref (J.2.2.1 x0), .int x1, .int x2, .int x3]) (n := 4) (Nat.le_of_ble_eq_true rfl)
  rw [lg_entry_eq]
  generalize (lg_sl ([.ref (J.2.2.1 x0), .int x1, .int x2, .int x3]) ++ List.replicate (4 - (lg_sl ([.ref (J.2.2.1 x0), .int x1, .int x2, .int x3])).length) Slot.unset).toArray = ls at hl ⊢
  have hl : lv_has ls 4 [(0, .ref (J.2.2.1 x0)), (1, .int x1), (2, .int x2), (3, .int x3)] := hl
  unfold f_J1_indexOf_4cfef at h
  refine lv_iload_n hx hb dJ1_indexOf_4cfef_0 rfl (lv_at hl 1 rfl) ?_
  obtain ⟨r1, hz1, h⟩ := gs_b1_e h
  refine gs_backRi (va_runS (As := [.int x1]) (rest := []) ⟨hx, hb, hml, hown, hts⟩ (c_J1_canEncode_9a6ad l E x1 r1 hz1) (va_cwS 1 hts gJ1_indexOf_4cfef_J1_canEncode_9a6ad rfl rfl rfl (by decide +kernel) ⟨Nat.le_of_ble_eq_true rfl, Nat.le_of_ble_eq_true rfl⟩) (gs_pre hk hP hD (is := []) rfl rfl) rfl rfl hl.1 rfl (lv_room (Nat.le_of_ble_eq_true rfl)) dJ1_indexOf_4cfef_1 ⟨Nat.zero_le _, Nat.zero_le _⟩) ?_
  refine lv_if_ne (tgt := 9) hx hb dJ1_indexOf_4cfef_4 (by decide) (fun c2 => ?_) (fun c2 => ?_)
  · replace h := gs_iff c2 h
    refine lv_iload_n hx hb dJ1_indexOf_4cfef_9 rfl (lv_at hl 2 rfl) ?_
    refine lv_iconst (v := 0) hx hb dJ1_indexOf_4cfef_10 (by decide) ?_
    refine va_mmax hx hb (by rw [hml]; exact hl.1.symm) hown (hts (.methodLink RJ1 92 Lib.Math.max.name) (List.mem_cons_of_mem _ (List.mem_of_getElem? (i := 0) rfl))) (hts (.static Lib.Math.max.name) (List.mem_cons_of_mem _ (List.mem_of_getElem? (i := 1) rfl))) (hts (.initialized "java/lang/Math") (List.mem_cons_of_mem _ (List.mem_of_getElem? (i := 2) rfl))) (hts (.code Lib.Math.max.name Lib.Math.max.code 2 (some .int)) (List.mem_cons_of_mem _ (List.mem_of_getElem? (i := 3) rfl))) (Nat.le_of_ble_eq_true rfl) (Nat.le_of_ble_eq_true rfl) (Nat.zero_le _) (Nat.zero_le _) dJ1_indexOf_4cfef_11 ?_
    refine lv_istore_n (lv' := [(2, .int (if x2 < 0 then 0 else x2)), (0, .ref (J.2.2.1 x0)), (1, .int x1), (3, .int x3)]) hx hb dJ1_indexOf_4cfef_14 rfl hl (by decide) rfl (fun ls hl => ?_)
    refine lv_iload_n hx hb dJ1_indexOf_4cfef_15 rfl (lv_at hl 3 rfl) ?_
    refine lv_aload_n hx hb dJ1_indexOf_4cfef_16 rfl (lv_at hl 1 rfl) ?_
    refine va_tlen (v := Int32.ofNat (gs_sl x0)) hx hb (hAm.1 x0).2.2.2 va_S.rf rfl dJ1_indexOf_4cfef_17 ?_
    refine va_mmin hx hb (by rw [hml]; exact hl.1.symm) hown (hts (.methodLink RJ1 38 Lib.Math.min.name) (List.mem_cons_of_mem _ (List.mem_of_getElem? (i := 4) rfl))) (hts (.static Lib.Math.min.name) (List.mem_cons_of_mem _ (List.mem_of_getElem? (i := 5) rfl))) (hts (.initialized "java/lang/Math") (List.mem_cons_of_mem _ (List.mem_of_getElem? (i := 2) rfl))) (hts (.code Lib.Math.min.name Lib.Math.min.code 2 (some .int)) (List.mem_cons_of_mem _ (List.mem_of_getElem? (i := 6) rfl))) (Nat.le_of_ble_eq_true rfl) (Nat.le_of_ble_eq_true rfl) (Nat.zero_le _) (Nat.zero_le _) dJ1_indexOf_4cfef_18 ?_
    refine lv_istore_n (lv' := [(3, .int (if (Int32.ofNat (gs_sl x0)) < x3 then (Int32.ofNat (gs_sl x0)) else x3)), (2, .int (if x2 < 0 then 0 else x2)), (0, .ref (J.2.2.1 x0)), (1, .int x1)]) hx hb dJ1_indexOf_4cfef_21 rfl hl (by decide) rfl (fun ls hl => ?_)
    refine lv_iload_n hx hb dJ1_indexOf_4cfef_22 rfl (lv_at hl 1 rfl) ?_
    refine lv_iload_n hx hb dJ1_indexOf_4cfef_23 rfl (lv_at hl 0 rfl) ?_
    refine lv_icmp_lt (tgt := 29) hx hb dJ1_indexOf_4cfef_24 (by decide) (fun c3 => ?_) (fun c3 => ?_)
    · replace h := gs_ift c3 h
      refine lv_aload_n hx hb dJ1_indexOf_4cfef_29 rfl (lv_at hl 2 rfl) ?_
      refine lv_iload_n hx hb dJ1_indexOf_4cfef_30 rfl (lv_at hl 3 rfl) ?_
      refine lv_iload_n hx hb dJ1_indexOf_4cfef_31 rfl (lv_at hl 1 rfl) ?_
      refine lv_iload_n hx hb dJ1_indexOf_4cfef_32 rfl (lv_at hl 0 rfl) ?_
      obtain ⟨r4, hz4, h⟩ := gs_b1_e h
      refine gs_backRi (va_runS (As := [.ref (J.2.2.1 x0), .int x1, .int (if x2 < 0 then 0 else x2), .int (if (Int32.ofNat (gs_sl x0)) < x3 then (Int32.ofNat (gs_sl x0)) else x3)]) (rest := []) ⟨hx, hb, hml, hown, hts⟩ (c_J1_indexOfChar_4cfef l E J x0 x1 (if x2 < 0 then 0 else x2) (if (Int32.ofNat (gs_sl x0)) < x3 then (Int32.ofNat (gs_sl x0)) else x3) r4 hz4) (va_cwS 4 hts gJ1_indexOf_4cfef_J1_indexOfChar_4cfef rfl rfl rfl (by decide +kernel) ⟨Nat.le_of_ble_eq_true rfl, Nat.le_of_ble_eq_true rfl⟩) (gs_preS hk hAm hP hD (fun _ h => h) va_S.rf (is := []) rfl rfl) rfl rfl hl.1 rfl (lv_room (Nat.le_of_ble_eq_true rfl)) dJ1_indexOf_4cfef_33 ⟨Nat.zero_le _, Nat.zero_le _⟩) ?_
      have h := Option.some.inj h
      subst h
      exact hret _ _ dJ1_indexOf_4cfef_36
    · replace h := gs_iff c3 h
      refine lv_iconst (v := (-1)) hx hb dJ1_indexOf_4cfef_27 (by decide) ?_
      have h := Option.some.inj h
      subst h
      exact hret _ _ dJ1_indexOf_4cfef_28
  · replace h := gs_ift c2 h
    refine lv_iconst (v := (-1)) hx hb dJ1_indexOf_4cfef_7 (by decide) ?_
    have h := Option.some.inj h
    subst h
    exact hret _ _ dJ1_indexOf_4cfef_8

set_option maxRecDepth 100000 in
theorem ggJ0_indexOf_7cf53_J0_isLatin1_aae02 : GoodIn wsJ0_indexOf_7cf53 wsJ0_isLatin1_aae02 := goodIn_r _ [6, 7, 8] rfl (by decide +kernel)
set_option maxRecDepth 100000 in
theorem gJ0_indexOf_7cf53_J0_isLatin1_aae02 : GoodIn wsJ0_indexOf_7cf53 (wsV RJ0 492 RJ0 yJ0_isLatin1_aae02 wsJ0_isLatin1_aae02) := goodIn_app (goodIn_of _ (by decide +kernel)) ggJ0_indexOf_7cf53_J0_isLatin1_aae02
set_option maxRecDepth 100000 in
theorem ggJ0_indexOf_7cf53_J0_length_8abf5 : GoodIn wsJ0_indexOf_7cf53 wsJ0_length_8abf5 := goodIn_r _ [12, 1, 13, 14, 15, 5, 16, 7, 8] rfl (by decide +kernel)
set_option maxRecDepth 100000 in
theorem gJ0_indexOf_7cf53_J0_length_8abf5 : GoodIn wsJ0_indexOf_7cf53 (wsV RJ0 505 RJ0 yJ0_length_8abf5 wsJ0_length_8abf5) := goodIn_app (goodIn_of _ (by decide +kernel)) ggJ0_indexOf_7cf53_J0_length_8abf5
set_option maxRecDepth 100000 in
theorem ggJ0_indexOf_7cf53_J1_indexOf_4cfef : GoodIn wsJ0_indexOf_7cf53 wsJ1_indexOf_4cfef := goodIn_r _ [20, 21, 22, 23, 24, 25, 26, 27, 28, 29, 19, 30, 31, 32, 33] rfl (by decide +kernel)
set_option maxRecDepth 100000 in
theorem gJ0_indexOf_7cf53_J1_indexOf_4cfef : GoodIn wsJ0_indexOf_7cf53 (va_wsS RJ0 637 yJ1_indexOf_4cfef wsJ1_indexOf_4cfef) := goodIn_app (goodIn_of _ (by decide +kernel)) ggJ0_indexOf_7cf53_J1_indexOf_4cfef
set_option maxRecDepth 100000 in
theorem ggJ0_indexOf_7cf53_J2_indexOf_4cfef : GoodIn wsJ0_indexOf_7cf53 wsJ2_indexOf_4cfef := goodIn_r _ [37, 38, 22, 23, 24, 39, 26, 27, 40, 41, 42, 36, 43, 44, 45, 46, 47, 48, 49, 50, 51, 5, 52, 53, 54, 55, 56, 57, 58, 59, 60, 61, 62, 63, 64, 65, 66, 67, 68, 69, 70, 71, 72, 73, 74, 75, 76, 77, 78, 79, 80, 81] rfl (by decide +kernel)
set_option maxRecDepth 100000 in
theorem gJ0_indexOf_7cf53_J2_indexOf_4cfef : GoodIn wsJ0_indexOf_7cf53 (va_wsS RJ0 640 yJ2_indexOf_4cfef wsJ2_indexOf_4cfef) := goodIn_app (goodIn_of _ (by decide +kernel)) ggJ0_indexOf_7cf53_J2_indexOf_4cfef
theorem dJ0_indexOf_7cf53_0 : decode cJ0_indexOf_7cf53 0 = .ok (.aload_n 0, 1) := by decide +kernel
theorem dJ0_indexOf_7cf53_1 : decode cJ0_indexOf_7cf53 1 = .ok (.invokevirtual 492, 3) := by decide +kernel
theorem dJ0_indexOf_7cf53_4 : decode cJ0_indexOf_7cf53 4 = .ok (.ifCond .eq 19, 3) := by decide +kernel
theorem dJ0_indexOf_7cf53_7 : decode cJ0_indexOf_7cf53 7 = .ok (.aload_n 0, 1) := by decide +kernel
theorem dJ0_indexOf_7cf53_8 : decode cJ0_indexOf_7cf53 8 = .ok (.getfield 9, 3) := by decide +kernel
theorem dJ0_indexOf_7cf53_11 : decode cJ0_indexOf_7cf53 11 = .ok (.iload_n 1, 1) := by decide +kernel
theorem dJ0_indexOf_7cf53_12 : decode cJ0_indexOf_7cf53 12 = .ok (.iload_n 2, 1) := by decide +kernel
theorem dJ0_indexOf_7cf53_13 : decode cJ0_indexOf_7cf53 13 = .ok (.aload_n 0, 1) := by decide +kernel
theorem dJ0_indexOf_7cf53_14 : decode cJ0_indexOf_7cf53 14 = .ok (.invokevirtual 505, 3) := by decide +kernel
theorem dJ0_indexOf_7cf53_17 : decode cJ0_indexOf_7cf53 17 = .ok (.invokestatic 637, 3) := by decide +kernel
theorem dJ0_indexOf_7cf53_20 : decode cJ0_indexOf_7cf53 20 = .ok (.goto 16, 3) := by decide +kernel
theorem dJ0_indexOf_7cf53_23 : decode cJ0_indexOf_7cf53 23 = .ok (.aload_n 0, 1) := by decide +kernel
theorem dJ0_indexOf_7cf53_24 : decode cJ0_indexOf_7cf53 24 = .ok (.getfield 9, 3) := by decide +kernel
theorem dJ0_indexOf_7cf53_27 : decode cJ0_indexOf_7cf53 27 = .ok (.iload_n 1, 1) := by decide +kernel
theorem dJ0_indexOf_7cf53_28 : decode cJ0_indexOf_7cf53 28 = .ok (.iload_n 2, 1) := by decide +kernel
theorem dJ0_indexOf_7cf53_29 : decode cJ0_indexOf_7cf53 29 = .ok (.aload_n 0, 1) := by decide +kernel
theorem dJ0_indexOf_7cf53_30 : decode cJ0_indexOf_7cf53 30 = .ok (.invokevirtual 505, 3) := by decide +kernel
theorem dJ0_indexOf_7cf53_33 : decode cJ0_indexOf_7cf53 33 = .ok (.invokestatic 640, 3) := by decide +kernel
theorem dJ0_indexOf_7cf53_36 : decode cJ0_indexOf_7cf53 36 = .ok (.ireturn, 1) := by decide +kernel
abbrev w_J0_indexOf_7cf53 (E : gs_E) : va_W := []
abbrev rm_J0_indexOf_7cf53 : Room := { frames := 2, cells := 0, slots := 0, locals := 63 }
def f_J0_indexOf_7cf53 (x0 : Nat) (x1 : Int32) (x2 : Int32) : Option (Int32) :=
  gs_b1 (f_J0_isLatin1_aae02 x0) fun r1 =>
  if r1 = 0 then
    none
  else
    gs_b1 (f_J0_length_8abf5 x0) fun r3 =>
    gs_b1 (f_J1_indexOf_4cfef x0 x1 x2 r3) fun r4 =>
    some r4
set_option maxHeartbeats 4000000 in
set_option maxRecDepth 100000 in
theorem c_J0_indexOf_7cf53 (l : Launch) (E : gs_E) (J : gs_J) (x0 : Nat) (x1 : Int32) (x2 : Int32) (rr : Int32) (h : f_J0_indexOf_7cf53 x0 x1 x2 = some rr) : gs_MRS l yJ0_indexOf_7cf53 wsJ0_indexOf_7cf53 rm_J0_indexOf_7cf53 [.ref (J.2.1 x0), .int x1, .int x2] E J (w_J0_indexOf_7cf53 E ) (some (.int rr)) := by
  refine Met.ofW (cc := cJ0_indexOf_7cf53) (maxL := 3) (ret := (some .int)) (by decide) rfl ?_
  intro p e s m args below meth c s₁ B hml hv
  obtain ⟨rfl, hP, hk, hD0, hAm⟩ := hv
  have X0 : gs_X wsJ0_indexOf_7cf53 cJ0_indexOf_7cf53 RJ0 3 (some .int) p s m ([.ref (J.2.1 x0), .int x1, .int x2] : List Value).toArray meth c := gs_X.of B hml
  obtain ⟨hx, hb, -, hown, hts, hr, hlk⟩ := id X0
  have hD := hD0
  have hret : ∀ (pc : Nat) (ls : Array Slot), decode cJ0_indexOf_7cf53 pc = .ok (.ireturn, 1) → W p l e rm_J0_indexOf_7cf53 s m ([.ref (J.2.1 x0), .int x1, .int x2] : List Value).toArray below meth c s.heap [] 0 0 (MQ below (gs_QR (some (.int rr))) ([.ref (J.2.1 x0), .int x1, .int x2] : List Value).toArray s 0 0 (fun _ => False)) (F0 m pc ls [.int rr]) := fun pc ls hd => W.iret hx hb hr (fun t ht hW => ⟨rfl, ht⟩) (fun q hq => by cases hq) hd
  have hl := lv_entry ([.ref (J.2.1 x0), .int x1, .int x2]) (n := 3) (Nat.le_of_ble_eq_true rfl)
  rw [lg_entry_eq]
  generalize (lg_sl ([.ref (J.2.1 x0), .int x1, .int x2]) ++ List.replicate (3 - (lg_sl ([.ref (J.2.1 x0), .int x1, .int x2])).length) Slot.unset).toArray = ls at hl ⊢
  have hl : lv_has ls 3 [(0, .ref (J.2.1 x0)), (1, .int x1), (2, .int x2)] := hl
  unfold f_J0_indexOf_7cf53 at h
  refine lv_aload_n hx hb dJ0_indexOf_7cf53_0 rfl (lv_at hl 0 rfl) ?_
  obtain ⟨r1, hz1, h⟩ := gs_b1_e h
  refine gs_backRi (va_runV (As := []) (rest := []) ⟨hx, hb, hml, hown, hts⟩ (c_J0_isLatin1_aae02 l E J x0 r1 hz1) (cwV 0 hts gJ0_indexOf_7cf53_J0_isLatin1_aae02 rfl rfl rfl (by decide +kernel) ⟨Nat.le_of_ble_eq_true rfl, Nat.le_of_ble_eq_true rfl⟩) (gs_preVs (i := x0) hk hAm hP hD (fun _ h => h) va_S.rf (is := []) rfl rfl) rfl rfl hl.1 rfl (lv_room (Nat.le_of_ble_eq_true rfl)) dJ0_indexOf_7cf53_1 ⟨Nat.zero_le _, Nat.zero_le _⟩) ?_
  refine lv_if_eq (tgt := 23) hx hb dJ0_indexOf_7cf53_4 (by decide) (fun c2 => ?_) (fun c2 => ?_)
  · replace h := gs_ift c2 h
    cases h
  · replace h := gs_iff c2 h
    refine lv_aload_n hx hb dJ0_indexOf_7cf53_7 rfl (lv_at hl 0 rfl) ?_
    refine vk_getf hx hb (hAm.1 x0).2.2.1 va_S.rf hown (hts (.fieldLink RJ0 9 "java/lang/String" "value" "[B") (List.mem_cons_of_mem _ (List.mem_append_left _ (List.mem_of_getElem? (i := 0) rfl)))) (fun _ h9 => h9) dJ0_indexOf_7cf53_8 ?_
    refine lv_iload_n hx hb dJ0_indexOf_7cf53_11 rfl (lv_at hl 1 rfl) ?_
    refine lv_iload_n hx hb dJ0_indexOf_7cf53_12 rfl (lv_at hl 2 rfl) ?_
    refine lv_aload_n hx hb dJ0_indexOf_7cf53_13 rfl (lv_at hl 0 rfl) ?_
    obtain ⟨r3, hz3, h⟩ := gs_b1_e h
    refine gs_backRi (va_runV (As := []) (rest := [.int x2, .int x1, .ref (J.2.2.1 x0)]) ⟨hx, hb, hml, hown, hts⟩ (c_J0_length_8abf5 l E J x0 r3 hz3) (cwV 0 hts gJ0_indexOf_7cf53_J0_length_8abf5 rfl rfl rfl (by decide +kernel) ⟨Nat.le_of_ble_eq_true rfl, Nat.le_of_ble_eq_true rfl⟩) (gs_preVs (i := x0) hk hAm hP hD (fun _ h => h) va_S.rf (is := []) rfl rfl) rfl rfl hl.1 rfl (lv_room (Nat.le_of_ble_eq_true rfl)) dJ0_indexOf_7cf53_14 ⟨Nat.zero_le _, Nat.zero_le _⟩) ?_
    obtain ⟨r4, hz4, h⟩ := gs_b1_e h
    refine gs_backRi (va_runS (As := [.ref (J.2.2.1 x0), .int x1, .int x2, .int r3]) (rest := []) ⟨hx, hb, hml, hown, hts⟩ (c_J1_indexOf_4cfef l E J x0 x1 x2 r3 r4 hz4) (va_cwS 4 hts gJ0_indexOf_7cf53_J1_indexOf_4cfef rfl rfl rfl (by decide +kernel) ⟨Nat.le_of_ble_eq_true rfl, Nat.le_of_ble_eq_true rfl⟩) (gs_preS hk hAm hP hD (fun _ h => h) va_S.rf (is := []) rfl rfl) rfl rfl hl.1 rfl (lv_room (Nat.le_of_ble_eq_true rfl)) dJ0_indexOf_7cf53_17 ⟨Nat.zero_le _, Nat.zero_le _⟩) ?_
    refine lv_goto (tgt := 36) hx hb dJ0_indexOf_7cf53_20 (by decide) ?_
    have h := Option.some.inj h
    subst h
    exact hret _ _ dJ0_indexOf_7cf53_36

set_option maxRecDepth 100000 in
theorem ggJ0_indexOf_0f7a4_J0_indexOf_7cf53 : GoodIn wsJ0_indexOf_0f7a4 wsJ0_indexOf_7cf53 := goodIn_r _ [5, 6, 7, 8, 9, 4, 10, 11, 12, 13, 14, 15, 16, 17, 18, 19, 20, 21, 22, 23, 24, 25, 26, 27, 28, 29, 30, 31, 32, 33, 34, 35, 36, 37, 38, 39, 40, 41, 42, 43, 44, 45, 46, 47, 48, 49, 50, 51, 52, 53, 54, 55, 56, 57, 58, 59, 60, 61, 62, 63, 64, 65, 66, 67, 68, 69, 70, 71, 72, 73, 74, 75, 76, 77, 78, 79, 80, 81, 82, 83, 84, 85] rfl (by decide +kernel)
set_option maxRecDepth 100000 in
theorem gJ0_indexOf_0f7a4_J0_indexOf_7cf53 : GoodIn wsJ0_indexOf_0f7a4 (wsV RJ0 633 RJ0 yJ0_indexOf_7cf53 wsJ0_indexOf_7cf53) := goodIn_app (goodIn_of _ (by decide +kernel)) ggJ0_indexOf_0f7a4_J0_indexOf_7cf53
theorem dJ0_indexOf_0f7a4_0 : decode cJ0_indexOf_0f7a4 0 = .ok (.aload_n 0, 1) := by decide +kernel
theorem dJ0_indexOf_0f7a4_1 : decode cJ0_indexOf_0f7a4 1 = .ok (.iload_n 1, 1) := by decide +kernel
theorem dJ0_indexOf_0f7a4_2 : decode cJ0_indexOf_0f7a4 2 = .ok (.iconst 0, 1) := by decide +kernel
theorem dJ0_indexOf_0f7a4_3 : decode cJ0_indexOf_0f7a4 3 = .ok (.invokevirtual 633, 3) := by decide +kernel
theorem dJ0_indexOf_0f7a4_6 : decode cJ0_indexOf_0f7a4 6 = .ok (.ireturn, 1) := by decide +kernel
abbrev w_J0_indexOf_0f7a4 (E : gs_E) : va_W := []
abbrev rm_J0_indexOf_0f7a4 : Room := { frames := 3, cells := 0, slots := 0, locals := 85 }
def f_J0_indexOf_0f7a4 (x0 : Nat) (x1 : Int32) : Option (Int32) :=
  gs_b1 (f_J0_indexOf_7cf53 x0 x1 0) fun r1 =>
  some r1
set_option maxHeartbeats 4000000 in
set_option maxRecDepth 100000 in
theorem c_J0_indexOf_0f7a4 (l : Launch) (E : gs_E) (J : gs_J) (x0 : Nat) (x1 : Int32) (rr : Int32) (h : f_J0_indexOf_0f7a4 x0 x1 = some rr) : gs_MRS l yJ0_indexOf_0f7a4 wsJ0_indexOf_0f7a4 rm_J0_indexOf_0f7a4 [.ref (J.2.1 x0), .int x1] E J (w_J0_indexOf_0f7a4 E ) (some (.int rr)) := by
  refine Met.ofW (cc := cJ0_indexOf_0f7a4) (maxL := 2) (ret := (some .int)) (by decide) rfl ?_
  intro p e s m args below meth c s₁ B hml hv
  obtain ⟨rfl, hP, hk, hD0, hAm⟩ := hv
  have X0 : gs_X wsJ0_indexOf_0f7a4 cJ0_indexOf_0f7a4 RJ0 2 (some .int) p s m ([.ref (J.2.1 x0), .int x1] : List Value).toArray meth c := gs_X.of B hml
  obtain ⟨hx, hb, -, hown, hts, hr, hlk⟩ := id X0
  have hD := hD0
  have hret : ∀ (pc : Nat) (ls : Array Slot), decode cJ0_indexOf_0f7a4 pc = .ok (.ireturn, 1) → W p l e rm_J0_indexOf_0f7a4 s m ([.ref (J.2.1 x0), .int x1] : List Value).toArray below meth c s.heap [] 0 0 (MQ below (gs_QR (some (.int rr))) ([.ref (J.2.1 x0), .int x1] : List Value).toArray s 0 0 (fun _ => False)) (F0 m pc ls [.int rr]) := fun pc ls hd => W.iret hx hb hr (fun t ht hW => ⟨rfl, ht⟩) (fun q hq => by cases hq) hd
  have hl := lv_entry ([.ref (J.2.1 x0), .int x1]) (n := 2) (Nat.le_of_ble_eq_true rfl)
  rw [lg_entry_eq]
  generalize (lg_sl ([.ref (J.2.1 x0), .int x1]) ++ List.replicate (2 - (lg_sl ([.ref (J.2.1 x0), .int x1])).length) Slot.unset).toArray = ls at hl ⊢
  have hl : lv_has ls 2 [(0, .ref (J.2.1 x0)), (1, .int x1)] := hl
  unfold f_J0_indexOf_0f7a4 at h
  refine lv_aload_n hx hb dJ0_indexOf_0f7a4_0 rfl (lv_at hl 0 rfl) ?_
  refine lv_iload_n hx hb dJ0_indexOf_0f7a4_1 rfl (lv_at hl 1 rfl) ?_
  refine lv_iconst (v := 0) hx hb dJ0_indexOf_0f7a4_2 (by decide) ?_
  obtain ⟨r1, hz1, h⟩ := gs_b1_e h
  refine gs_backRi (va_runV (As := [.int x1, .int 0]) (rest := []) ⟨hx, hb, hml, hown, hts⟩ (c_J0_indexOf_7cf53 l E J x0 x1 0 r1 hz1) (cwV 2 hts gJ0_indexOf_0f7a4_J0_indexOf_7cf53 rfl rfl rfl (by decide +kernel) ⟨Nat.le_of_ble_eq_true rfl, Nat.le_of_ble_eq_true rfl⟩) (gs_preVs (i := x0) hk hAm hP hD (fun _ h => h) va_S.rf (is := []) rfl rfl) rfl rfl hl.1 rfl (lv_room (Nat.le_of_ble_eq_true rfl)) dJ0_indexOf_0f7a4_3 ⟨Nat.zero_le _, Nat.zero_le _⟩) ?_
  have h := Option.some.inj h
  subst h
  exact hret _ _ dJ0_indexOf_0f7a4_6

set_option maxRecDepth 100000 in
theorem ggX8_isWord_J0_length_8abf5 : GoodIn wsX8_isWord wsJ0_length_8abf5 := goodIn_r _ [9, 10, 11, 12, 13, 8, 14, 15, 16] rfl (by decide +kernel)
set_option maxRecDepth 100000 in
theorem gX8_isWord_J0_length_8abf5 : GoodIn wsX8_isWord (wsV RX8 74 RJ0 yJ0_length_8abf5 wsJ0_length_8abf5) := goodIn_app (goodIn_of _ (by decide +kernel)) ggX8_isWord_J0_length_8abf5
set_option maxRecDepth 100000 in
theorem ggX8_isWord_J0_charAt_5068e : GoodIn wsX8_isWord wsJ0_charAt_5068e := goodIn_r _ [20, 10, 21, 22, 23, 8, 24, 15, 16, 25, 26, 27, 28, 29, 30, 31, 32, 33, 34, 35, 36, 37, 38, 39, 40, 41, 42, 43, 44, 45, 46, 47, 48, 49, 50, 51, 52, 53] rfl (by decide +kernel)
set_option maxRecDepth 100000 in
theorem gX8_isWord_J0_charAt_5068e : GoodIn wsX8_isWord (wsV RX8 77 RJ0 yJ0_charAt_5068e wsJ0_charAt_5068e) := goodIn_app (goodIn_of _ (by decide +kernel)) ggX8_isWord_J0_charAt_5068e
theorem dX8_isWord_0 : decode cX8_isWord 0 = .ok (.aload_n 0, 1) := by decide +kernel
theorem dX8_isWord_1 : decode cX8_isWord 1 = .ok (.getfield 18, 3) := by decide +kernel
theorem dX8_isWord_4 : decode cX8_isWord 4 = .ok (.iconst 1, 1) := by decide +kernel
theorem dX8_isWord_5 : decode cX8_isWord 5 = .ok (.if_icmp .ne 19, 3) := by decide +kernel
theorem dX8_isWord_8 : decode cX8_isWord 8 = .ok (.aload_n 0, 1) := by decide +kernel
theorem dX8_isWord_9 : decode cX8_isWord 9 = .ok (.getfield 15, 3) := by decide +kernel
theorem dX8_isWord_12 : decode cX8_isWord 12 = .ok (.aload_n 0, 1) := by decide +kernel
theorem dX8_isWord_13 : decode cX8_isWord 13 = .ok (.getfield 21, 3) := by decide +kernel
theorem dX8_isWord_16 : decode cX8_isWord 16 = .ok (.isub, 1) := by decide +kernel
theorem dX8_isWord_17 : decode cX8_isWord 17 = .ok (.aload_n 1, 1) := by decide +kernel
theorem dX8_isWord_18 : decode cX8_isWord 18 = .ok (.invokevirtual 74, 3) := by decide +kernel
theorem dX8_isWord_21 : decode cX8_isWord 21 = .ok (.if_icmp .eq 5, 3) := by decide +kernel
theorem dX8_isWord_24 : decode cX8_isWord 24 = .ok (.iconst 0, 1) := by decide +kernel
theorem dX8_isWord_25 : decode cX8_isWord 25 = .ok (.ireturn, 1) := by decide +kernel
theorem dX8_isWord_26 : decode cX8_isWord 26 = .ok (.iconst 0, 1) := by decide +kernel
theorem dX8_isWord_27 : decode cX8_isWord 27 = .ok (.istore_n 2, 1) := by decide +kernel
theorem dX8_isWord_28 : decode cX8_isWord 28 = .ok (.iload_n 2, 1) := by decide +kernel
theorem dX8_isWord_29 : decode cX8_isWord 29 = .ok (.aload_n 1, 1) := by decide +kernel
theorem dX8_isWord_30 : decode cX8_isWord 30 = .ok (.invokevirtual 74, 3) := by decide +kernel
theorem dX8_isWord_33 : decode cX8_isWord 33 = .ok (.if_icmp .ge 30, 3) := by decide +kernel
theorem dX8_isWord_36 : decode cX8_isWord 36 = .ok (.aload_n 0, 1) := by decide +kernel
theorem dX8_isWord_37 : decode cX8_isWord 37 = .ok (.getfield 37, 3) := by decide +kernel
theorem dX8_isWord_40 : decode cX8_isWord 40 = .ok (.aload_n 0, 1) := by decide +kernel
theorem dX8_isWord_41 : decode cX8_isWord 41 = .ok (.getfield 21, 3) := by decide +kernel
theorem dX8_isWord_44 : decode cX8_isWord 44 = .ok (.iload_n 2, 1) := by decide +kernel
theorem dX8_isWord_45 : decode cX8_isWord 45 = .ok (.iadd, 1) := by decide +kernel
theorem dX8_isWord_46 : decode cX8_isWord 46 = .ok (.baload, 1) := by decide +kernel
theorem dX8_isWord_47 : decode cX8_isWord 47 = .ok (.aload_n 1, 1) := by decide +kernel
theorem dX8_isWord_48 : decode cX8_isWord 48 = .ok (.iload_n 2, 1) := by decide +kernel
theorem dX8_isWord_49 : decode cX8_isWord 49 = .ok (.invokevirtual 77, 3) := by decide +kernel
theorem dX8_isWord_52 : decode cX8_isWord 52 = .ok (.if_icmp .eq 5, 3) := by decide +kernel
theorem dX8_isWord_55 : decode cX8_isWord 55 = .ok (.iconst 0, 1) := by decide +kernel
theorem dX8_isWord_56 : decode cX8_isWord 56 = .ok (.ireturn, 1) := by decide +kernel
theorem dX8_isWord_57 : decode cX8_isWord 57 = .ok (.iinc 2 1, 3) := by decide +kernel
theorem dX8_isWord_60 : decode cX8_isWord 60 = .ok (.goto (-32), 3) := by decide +kernel
theorem dX8_isWord_63 : decode cX8_isWord 63 = .ok (.iconst 1, 1) := by decide +kernel
theorem dX8_isWord_64 : decode cX8_isWord 64 = .ok (.ireturn, 1) := by decide +kernel
abbrev w_X8_isWord (E : gs_E) (a_t a_t_text : Nat) (v_t_length : Int32) (v_t_at : Int32) (v_t_kind : Int32) (v_t_start : Int32) (v_t_value : Int32) (v_t_sign : Int32) (v_t_fault : Int32) (v_t_place : Int32) (r_t_text : Nat → Int32) : va_W := [(a_t, .inr (8, [.ref a_t_text, .int v_t_length, .int v_t_at, .int v_t_kind, .int v_t_start, .int v_t_value, .int v_t_sign, .int v_t_fault, .int v_t_place])), (a_t_text, .inl (E.2.2.1, 700, .inl r_t_text))]
abbrev rm_X8_isWord : Room := { frames := 4, cells := 0, slots := 0, locals := 85 }
def S_X8_isWord_28 (p : Program) (l : Launch) (e : Env) (s : State) (m : MethodId) (args : Array Value) (below : List Frame) (meth : Method) (c : Code) (Q : State → Prop) (J : gs_J) (a_t a_t_text : Nat) (x1 : Nat) (x2 : Int32) : Prop := ∀ (ls : Array Slot), lv_has ls 3 [(0, .ref a_t), (1, .ref (J.2.1 x1)), (2, .int x2)] → W p l e rm_X8_isWord s m args below meth c s.heap [] 0 0 Q (F0 m 28 ls [])
def f_X8_isWord_28 (x1 : Nat) (v_t_start : Int32) (r_t_text : Nat → Int32) (K28 : Int32 → Option (Int32)) (x2 : Int32) : Option (Int32) :=
  gs_b1 (f_J0_length_8abf5 x1) fun r4 =>
  if r4 ≤ x2 then
    some 1
  else
    gs_gd (gs_in (v_t_start + x2) 700) <|
    gs_b1 (f_J0_charAt_5068e x1 x2) fun r7 =>
    if (r_t_text (v_t_start + x2).toNatClampNeg) = r7 then
      K28 (x2 + 1)
    else
      some 0
set_option maxHeartbeats 4000000 in
set_option maxRecDepth 100000 in
theorem t_X8_isWord_28_b {p : Program} {l : Launch} {e : Env} {s : State} {m : MethodId} {args : Array Value} {below : List Frame} {meth : Method} {c : Code} {Q : State → Prop} {E : gs_E} {J : gs_J} {a_t a_t_text : Nat} {v_t_length : Int32} {v_t_at : Int32} {v_t_kind : Int32} {v_t_start : Int32} {v_t_value : Int32} {v_t_sign : Int32} {v_t_fault : Int32} {v_t_place : Int32} {r_t_text : Nat → Int32} {rr : Int32} (X0 : gs_X wsX8_isWord cX8_isWord RX8 3 (some .boolean) p s m args meth c) (hk : gs_K E s) (hAm : gs_Amb J s) (hP : va_P E.1 vwCl (w_X8_isWord E a_t a_t_text v_t_length v_t_at v_t_kind v_t_start v_t_value v_t_sign v_t_fault v_t_place r_t_text) s.heap) (hD : va_D (gs_B J) (w_X8_isWord E a_t a_t_text v_t_length v_t_at v_t_kind v_t_start v_t_value v_t_sign v_t_fault v_t_place r_t_text)) {x1 : Nat} {x2 : Int32} (hret : ∀ (pc : Nat) (ls : Array Slot), narrow .boolean (.int rr) = .int rr → decode cX8_isWord pc = .ok (.ireturn, 1) → W p l e rm_X8_isWord s m args below meth c s.heap [] 0 0 Q (F0 m pc ls [.int rr])) {K28 : Int32 → Option (Int32)} (hK28 : ∀ (x2 : Int32), K28 x2 = some rr → S_X8_isWord_28 p l e s m args below meth c Q J a_t a_t_text x1 x2) (h : f_X8_isWord_28 x1 v_t_start r_t_text K28 x2 = some rr) : S_X8_isWord_28 p l e s m args below meth c Q J a_t a_t_text x1 x2 := by
  obtain ⟨hx, hb, hml, hown, hts, hr, hlk⟩ := id X0
  intro ls hl
  unfold f_X8_isWord_28 at h
  refine lv_iload_n hx hb dX8_isWord_28 rfl (lv_at hl 2 rfl) ?_
  refine lv_aload_n hx hb dX8_isWord_29 rfl (lv_at hl 1 rfl) ?_
  obtain ⟨r4, hz4, h⟩ := gs_b1_e h
  refine gs_backRi (va_runV (As := []) (rest := [.int x2]) ⟨hx, hb, hml, hown, hts⟩ (c_J0_length_8abf5 l E J x1 r4 hz4) (cwV 0 hts gX8_isWord_J0_length_8abf5 rfl rfl rfl (by decide +kernel) ⟨Nat.le_of_ble_eq_true rfl, Nat.le_of_ble_eq_true rfl⟩) (gs_preVs (i := x1) hk hAm hP hD (fun _ h => h) va_S.rf (is := []) rfl rfl) rfl rfl hl.1 rfl (lv_room (Nat.le_of_ble_eq_true rfl)) dX8_isWord_30 ⟨Nat.zero_le _, Nat.zero_le _⟩) ?_
  refine lv_icmp_ge (tgt := 63) hx hb dX8_isWord_33 (by decide) (fun c5 => ?_) (fun c5 => ?_)
  · replace h := gs_ift c5 h
    refine lv_iconst (v := 1) hx hb dX8_isWord_63 (by decide) ?_
    have h := Option.some.inj h
    subst h
    exact hret _ _ rfl dX8_isWord_64
  · replace h := gs_iff c5 h
    refine lv_aload_n hx hb dX8_isWord_36 rfl (lv_at hl 0 rfl) ?_
    refine va_get (D := E.1) (ci := 8) (v := .ref a_t_text) (C := RX8) (T := TX8) (N := 9) hx hb hts (fun _ h => (List.mem_cons_of_mem _ (List.mem_append_right _ h))) hown hk.1 hP 0 rfl rfl 0 (by decide) (hts (.fieldLink RX8 37 "GapSongs$Tokens" "text" "[B") (List.mem_cons_of_mem _ (List.mem_append_left _ (List.mem_append_left _ (List.mem_of_getElem? (i := 3) rfl))))) (fun _ h9 => h9) rfl dX8_isWord_37 ?_
    refine lv_aload_n hx hb dX8_isWord_40 rfl (lv_at hl 0 rfl) ?_
    refine va_get (D := E.1) (ci := 8) (v := .int v_t_start) (C := RX8) (T := TX8) (N := 9) hx hb hts (fun _ h => (List.mem_cons_of_mem _ (List.mem_append_right _ h))) hown hk.1 hP 0 rfl rfl 4 (by decide) (hts (.fieldLink RX8 21 "GapSongs$Tokens" "start" "I") (List.mem_cons_of_mem _ (List.mem_append_left _ (List.mem_append_left _ (List.mem_of_getElem? (i := 2) rfl))))) (fun _ h9 => h9) rfl dX8_isWord_41 ?_
    refine lv_iload_n hx hb dX8_isWord_44 rfl (lv_at hl 2 rfl) ?_
    refine lv_iadd hx hb dX8_isWord_45 ?_
    obtain ⟨g6, h⟩ := gs_gd_e h
    refine va_bald hx hb hk.1 hP 1 1 rfl rfl (gs_in_e g6) dX8_isWord_46 ?_
    refine lv_aload_n hx hb dX8_isWord_47 rfl (lv_at hl 1 rfl) ?_
    refine lv_iload_n hx hb dX8_isWord_48 rfl (lv_at hl 2 rfl) ?_
    obtain ⟨r7, hz7, h⟩ := gs_b1_e h
    refine gs_backRi (va_runV (As := [.int x2]) (rest := [.int (r_t_text (v_t_start + x2).toNatClampNeg)]) ⟨hx, hb, hml, hown, hts⟩ (c_J0_charAt_5068e l E J x1 x2 r7 hz7) (cwV 1 hts gX8_isWord_J0_charAt_5068e rfl rfl rfl (by decide +kernel) ⟨Nat.le_of_ble_eq_true rfl, Nat.le_of_ble_eq_true rfl⟩) (gs_preVs (i := x1) hk hAm hP hD (fun _ h => h) va_S.rf (is := []) rfl rfl) rfl rfl hl.1 rfl (lv_room (Nat.le_of_ble_eq_true rfl)) dX8_isWord_49 ⟨Nat.zero_le _, Nat.zero_le _⟩) ?_
    refine lv_icmp_eq (tgt := 57) hx hb dX8_isWord_52 (by decide) (fun c8 => ?_) (fun c8 => ?_)
    · replace h := gs_ift c8 h
      refine lv_iinc (v := x2 + 1) (lv' := [(2, .int (x2 + 1)), (0, .ref a_t), (1, .ref (J.2.1 x1))]) hx hb dX8_isWord_57 hl (k := 2) rfl rfl (by decide) rfl (fun ls hl => ?_)
      refine lv_goto (tgt := 28) hx hb dX8_isWord_60 (by decide) ?_
      exact hK28 (x2 + 1) h _ (lv_sub hl [1, 2, 0] rfl)
    · replace h := gs_iff c8 h
      refine lv_iconst (v := 0) hx hb dX8_isWord_55 (by decide) ?_
      have h := Option.some.inj h
      subst h
      exact hret _ _ rfl dX8_isWord_56
set_option maxHeartbeats 4000000 in
set_option maxRecDepth 100000 in
theorem t_X8_isWord_28_n {p : Program} {l : Launch} {e : Env} {s : State} {m : MethodId} {args : Array Value} {below : List Frame} {meth : Method} {c : Code} {Q : State → Prop} {E : gs_E} {J : gs_J} {a_t a_t_text : Nat} {v_t_length : Int32} {v_t_at : Int32} {v_t_kind : Int32} {v_t_start : Int32} {v_t_value : Int32} {v_t_sign : Int32} {v_t_fault : Int32} {v_t_place : Int32} {r_t_text : Nat → Int32} {rr : Int32} (X0 : gs_X wsX8_isWord cX8_isWord RX8 3 (some .boolean) p s m args meth c) (hk : gs_K E s) (hAm : gs_Amb J s) (hP : va_P E.1 vwCl (w_X8_isWord E a_t a_t_text v_t_length v_t_at v_t_kind v_t_start v_t_value v_t_sign v_t_fault v_t_place r_t_text) s.heap) (hD : va_D (gs_B J) (w_X8_isWord E a_t a_t_text v_t_length v_t_at v_t_kind v_t_start v_t_value v_t_sign v_t_fault v_t_place r_t_text)) {x1 : Nat} (hret : ∀ (pc : Nat) (ls : Array Slot), narrow .boolean (.int rr) = .int rr → decode cX8_isWord pc = .ok (.ireturn, 1) → W p l e rm_X8_isWord s m args below meth c s.heap [] 0 0 Q (F0 m pc ls [.int rr])) : ∀ (n : Nat) (x2 : Int32), gs_it (fun _ => none) (f_X8_isWord_28 x1 v_t_start r_t_text) n x2 = some rr → S_X8_isWord_28 p l e s m args below meth c Q J a_t a_t_text x1 x2 := by
  intro n
  induction n with
  | zero =>
    intro x2 h
    have h : (none : Option (Int32)) = some rr := h
    cases h
  | succ n ih =>
    intro x2 h
    exact t_X8_isWord_28_b X0 hk hAm hP hD hret  (K28 := gs_it (fun _ => none) (f_X8_isWord_28 x1 v_t_start r_t_text) n) (hK28 := ih) (h := h)
theorem t_X8_isWord_28 {p : Program} {l : Launch} {e : Env} {s : State} {m : MethodId} {args : Array Value} {below : List Frame} {meth : Method} {c : Code} {Q : State → Prop} {E : gs_E} {J : gs_J} {a_t a_t_text : Nat} {v_t_length : Int32} {v_t_at : Int32} {v_t_kind : Int32} {v_t_start : Int32} {v_t_value : Int32} {v_t_sign : Int32} {v_t_fault : Int32} {v_t_place : Int32} {r_t_text : Nat → Int32} {rr : Int32} (X0 : gs_X wsX8_isWord cX8_isWord RX8 3 (some .boolean) p s m args meth c) (hk : gs_K E s) (hAm : gs_Amb J s) (hP : va_P E.1 vwCl (w_X8_isWord E a_t a_t_text v_t_length v_t_at v_t_kind v_t_start v_t_value v_t_sign v_t_fault v_t_place r_t_text) s.heap) (hD : va_D (gs_B J) (w_X8_isWord E a_t a_t_text v_t_length v_t_at v_t_kind v_t_start v_t_value v_t_sign v_t_fault v_t_place r_t_text)) {x1 : Nat} {x2 : Int32} (hret : ∀ (pc : Nat) (ls : Array Slot), narrow .boolean (.int rr) = .int rr → decode cX8_isWord pc = .ok (.ireturn, 1) → W p l e rm_X8_isWord s m args below meth c s.heap [] 0 0 Q (F0 m pc ls [.int rr])) (h : gs_it (fun _ => none) (f_X8_isWord_28 x1 v_t_start r_t_text) gs_fuel x2 = some rr) : S_X8_isWord_28 p l e s m args below meth c Q J a_t a_t_text x1 x2 :=
  t_X8_isWord_28_n X0 hk hAm hP hD hret  gs_fuel x2 h
def f_X8_isWord (x1 : Nat) (v_t_at : Int32) (v_t_kind : Int32) (v_t_start : Int32) (r_t_text : Nat → Int32) : Option (Int32) :=
  if v_t_kind = 1 then
    gs_b1 (f_J0_length_8abf5 x1) fun r2 =>
    if (v_t_at - v_t_start) = r2 then
      gs_it (fun _ => none) (f_X8_isWord_28 x1 v_t_start r_t_text) gs_fuel 0
    else
      some 0
  else
    some 0
set_option maxHeartbeats 4000000 in
set_option maxRecDepth 100000 in
theorem c_X8_isWord (l : Launch) (E : gs_E) (J : gs_J) (a_t a_t_text : Nat) (v_t_length : Int32) (v_t_at : Int32) (v_t_kind : Int32) (v_t_start : Int32) (v_t_value : Int32) (v_t_sign : Int32) (v_t_fault : Int32) (v_t_place : Int32) (r_t_text : Nat → Int32) (x1 : Nat) (rr : Int32) (h : f_X8_isWord x1 v_t_at v_t_kind v_t_start r_t_text = some rr) : gs_MRS l yX8_isWord wsX8_isWord rm_X8_isWord [.ref a_t, .ref (J.2.1 x1)] E J (w_X8_isWord E a_t a_t_text v_t_length v_t_at v_t_kind v_t_start v_t_value v_t_sign v_t_fault v_t_place r_t_text) (some (.int rr)) := by
  refine Met.ofW (cc := cX8_isWord) (maxL := 3) (ret := (some .boolean)) (by decide) rfl ?_
  intro p e s m args below meth c s₁ B hml hv
  obtain ⟨rfl, hP, hk, hD0, hAm⟩ := hv
  have X0 : gs_X wsX8_isWord cX8_isWord RX8 3 (some .boolean) p s m ([.ref a_t, .ref (J.2.1 x1)] : List Value).toArray meth c := gs_X.of B hml
  obtain ⟨hx, hb, -, hown, hts, hr, hlk⟩ := id X0
  have hD := hD0
  have hret : ∀ (pc : Nat) (ls : Array Slot), narrow .boolean (.int rr) = .int rr → decode cX8_isWord pc = .ok (.ireturn, 1) → W p l e rm_X8_isWord s m ([.ref a_t, .ref (J.2.1 x1)] : List Value).toArray below meth c s.heap [] 0 0 (MQ below (gs_QR (some (.int rr))) ([.ref a_t, .ref (J.2.1 x1)] : List Value).toArray s 0 0 (fun _ => False)) (F0 m pc ls [.int rr]) := fun pc ls hnar hd => W.zret hx hb hr hnar (fun t ht hW => ⟨rfl, ht⟩) (fun q hq => by cases hq) hd
  have hl := lv_entry ([.ref a_t, .ref (J.2.1 x1)]) (n := 3) (Nat.le_of_ble_eq_true rfl)
  rw [lg_entry_eq]
  generalize (lg_sl ([.ref a_t, .ref (J.2.1 x1)]) ++ List.replicate (3 - (lg_sl ([.ref a_t, .ref (J.2.1 x1)])).length) Slot.unset).toArray = ls at hl ⊢
  have hl : lv_has ls 3 [(0, .ref a_t), (1, .ref (J.2.1 x1))] := hl
  unfold f_X8_isWord at h
  refine lv_aload_n hx hb dX8_isWord_0 rfl (lv_at hl 0 rfl) ?_
  refine va_get (D := E.1) (ci := 8) (v := .int v_t_kind) (C := RX8) (T := TX8) (N := 9) hx hb hts (fun _ h => (List.mem_cons_of_mem _ (List.mem_append_right _ h))) hown hk.1 hP 0 rfl rfl 3 (by decide) (hts (.fieldLink RX8 18 "GapSongs$Tokens" "kind" "I") (List.mem_cons_of_mem _ (List.mem_append_left _ (List.mem_append_left _ (List.mem_of_getElem? (i := 0) rfl))))) (fun _ h9 => h9) rfl dX8_isWord_1 ?_
  refine lv_iconst (v := 1) hx hb dX8_isWord_4 (by decide) ?_
  refine lv_icmp_ne (tgt := 24) hx hb dX8_isWord_5 (by decide) (fun c1 => ?_) (fun c1 => ?_)
  · replace h := gs_iff c1 h
    refine lv_iconst (v := 0) hx hb dX8_isWord_24 (by decide) ?_
    have h := Option.some.inj h
    subst h
    exact hret _ _ rfl dX8_isWord_25
  · replace h := gs_ift c1 h
    refine lv_aload_n hx hb dX8_isWord_8 rfl (lv_at hl 0 rfl) ?_
    refine va_get (D := E.1) (ci := 8) (v := .int v_t_at) (C := RX8) (T := TX8) (N := 9) hx hb hts (fun _ h => (List.mem_cons_of_mem _ (List.mem_append_right _ h))) hown hk.1 hP 0 rfl rfl 2 (by decide) (hts (.fieldLink RX8 15 "GapSongs$Tokens" "at" "I") (List.mem_cons_of_mem _ (List.mem_append_left _ (List.mem_append_left _ (List.mem_of_getElem? (i := 1) rfl))))) (fun _ h9 => h9) rfl dX8_isWord_9 ?_
    refine lv_aload_n hx hb dX8_isWord_12 rfl (lv_at hl 0 rfl) ?_
    refine va_get (D := E.1) (ci := 8) (v := .int v_t_start) (C := RX8) (T := TX8) (N := 9) hx hb hts (fun _ h => (List.mem_cons_of_mem _ (List.mem_append_right _ h))) hown hk.1 hP 0 rfl rfl 4 (by decide) (hts (.fieldLink RX8 21 "GapSongs$Tokens" "start" "I") (List.mem_cons_of_mem _ (List.mem_append_left _ (List.mem_append_left _ (List.mem_of_getElem? (i := 2) rfl))))) (fun _ h9 => h9) rfl dX8_isWord_13 ?_
    refine lv_isub hx hb dX8_isWord_16 ?_
    refine lv_aload_n hx hb dX8_isWord_17 rfl (lv_at hl 1 rfl) ?_
    obtain ⟨r2, hz2, h⟩ := gs_b1_e h
    refine gs_backRi (va_runV (As := []) (rest := [.int (v_t_at - v_t_start)]) ⟨hx, hb, hml, hown, hts⟩ (c_J0_length_8abf5 l E J x1 r2 hz2) (cwV 0 hts gX8_isWord_J0_length_8abf5 rfl rfl rfl (by decide +kernel) ⟨Nat.le_of_ble_eq_true rfl, Nat.le_of_ble_eq_true rfl⟩) (gs_preVs (i := x1) hk hAm hP hD (fun _ h => h) va_S.rf (is := []) rfl rfl) rfl rfl hl.1 rfl (lv_room (Nat.le_of_ble_eq_true rfl)) dX8_isWord_18 ⟨Nat.zero_le _, Nat.zero_le _⟩) ?_
    refine lv_icmp_eq (tgt := 26) hx hb dX8_isWord_21 (by decide) (fun c3 => ?_) (fun c3 => ?_)
    · replace h := gs_ift c3 h
      refine lv_iconst (v := 0) hx hb dX8_isWord_26 (by decide) ?_
      refine lv_istore_n (lv' := [(2, .int 0), (0, .ref a_t), (1, .ref (J.2.1 x1))]) hx hb dX8_isWord_27 rfl hl (by decide) rfl (fun ls hl => ?_)
      exact t_X8_isWord_28 X0 hk hAm hP hD hret  (h := h) _ (lv_sub hl [1, 2, 0] rfl)
    · replace h := gs_iff c3 h
      refine lv_iconst (v := 0) hx hb dX8_isWord_24 (by decide) ?_
      have h := Option.some.inj h
      subst h
      exact hret _ _ rfl dX8_isWord_25

set_option maxRecDepth 100000 in
theorem ggX8_takeSign_J0_indexOf_0f7a4 : GoodIn wsX8_takeSign wsJ0_indexOf_0f7a4 := goodIn_r _ [9, 10, 11, 12, 8, 13, 14, 15, 16, 17, 18, 19, 20, 21, 22, 23, 24, 25, 26, 27, 28, 29, 30, 31, 32, 33, 34, 35, 36, 37, 38, 39, 40, 41, 42, 43, 44, 45, 46, 47, 48, 49, 50, 51, 52, 53, 54, 55, 56, 57, 58, 59, 60, 61, 62, 63, 64, 65, 66, 67, 68, 69, 70, 71, 72, 73, 74, 75, 76, 77, 78, 79, 80, 81, 82, 83, 84, 85, 86, 87, 88, 89, 90, 91, 92, 93] rfl (by decide +kernel)
set_option maxRecDepth 100000 in
theorem gX8_takeSign_J0_indexOf_0f7a4 : GoodIn wsX8_takeSign (wsV RX8 68 RJ0 yJ0_indexOf_0f7a4 wsJ0_indexOf_0f7a4) := goodIn_app (goodIn_of _ (by decide +kernel)) ggX8_takeSign_J0_indexOf_0f7a4
theorem dX8_takeSign_0 : decode cX8_takeSign 0 = .ok (.aload_n 0, 1) := by decide +kernel
theorem dX8_takeSign_1 : decode cX8_takeSign 1 = .ok (.aload_n 0, 1) := by decide +kernel
theorem dX8_takeSign_2 : decode cX8_takeSign 2 = .ok (.getfield 37, 3) := by decide +kernel
theorem dX8_takeSign_5 : decode cX8_takeSign 5 = .ok (.aload_n 0, 1) := by decide +kernel
theorem dX8_takeSign_6 : decode cX8_takeSign 6 = .ok (.getfield 15, 3) := by decide +kernel
theorem dX8_takeSign_9 : decode cX8_takeSign 9 = .ok (.baload, 1) := by decide +kernel
theorem dX8_takeSign_10 : decode cX8_takeSign 10 = .ok (.sipush 255, 3) := by decide +kernel
theorem dX8_takeSign_13 : decode cX8_takeSign 13 = .ok (.iand, 1) := by decide +kernel
theorem dX8_takeSign_14 : decode cX8_takeSign 14 = .ok (.i2c, 1) := by decide +kernel
theorem dX8_takeSign_15 : decode cX8_takeSign 15 = .ok (.putfield 27, 3) := by decide +kernel
theorem dX8_takeSign_18 : decode cX8_takeSign 18 = .ok (.aload_n 0, 1) := by decide +kernel
theorem dX8_takeSign_19 : decode cX8_takeSign 19 = .ok (.ldc 66, 2) := by decide +kernel
theorem dX8_takeSign_21 : decode cX8_takeSign 21 = .ok (.aload_n 0, 1) := by decide +kernel
theorem dX8_takeSign_22 : decode cX8_takeSign 22 = .ok (.getfield 27, 3) := by decide +kernel
theorem dX8_takeSign_25 : decode cX8_takeSign 25 = .ok (.invokevirtual 68, 3) := by decide +kernel
theorem dX8_takeSign_28 : decode cX8_takeSign 28 = .ok (.ifCond .lt 7, 3) := by decide +kernel
theorem dX8_takeSign_31 : decode cX8_takeSign 31 = .ok (.iconst 3, 1) := by decide +kernel
theorem dX8_takeSign_32 : decode cX8_takeSign 32 = .ok (.goto 4, 3) := by decide +kernel
theorem dX8_takeSign_35 : decode cX8_takeSign 35 = .ok (.iconst 4, 1) := by decide +kernel
theorem dX8_takeSign_36 : decode cX8_takeSign 36 = .ok (.putfield 18, 3) := by decide +kernel
theorem dX8_takeSign_39 : decode cX8_takeSign 39 = .ok (.aload_n 0, 1) := by decide +kernel
theorem dX8_takeSign_40 : decode cX8_takeSign 40 = .ok (.dup, 1) := by decide +kernel
theorem dX8_takeSign_41 : decode cX8_takeSign 41 = .ok (.getfield 15, 3) := by decide +kernel
theorem dX8_takeSign_44 : decode cX8_takeSign 44 = .ok (.iconst 1, 1) := by decide +kernel
theorem dX8_takeSign_45 : decode cX8_takeSign 45 = .ok (.iadd, 1) := by decide +kernel
theorem dX8_takeSign_46 : decode cX8_takeSign 46 = .ok (.putfield 15, 3) := by decide +kernel
theorem dX8_takeSign_49 : decode cX8_takeSign 49 = .ok (.return_, 1) := by decide +kernel
abbrev w_X8_takeSign (E : gs_E) (a_t a_t_text : Nat) (v_t_length : Int32) (v_t_at : Int32) (v_t_kind : Int32) (v_t_start : Int32) (v_t_value : Int32) (v_t_sign : Int32) (v_t_fault : Int32) (v_t_place : Int32) (r_t_text : Nat → Int32) : va_W := [(a_t, .inr (8, [.ref a_t_text, .int v_t_length, .int v_t_at, .int v_t_kind, .int v_t_start, .int v_t_value, .int v_t_sign, .int v_t_fault, .int v_t_place])), (a_t_text, .inl (E.2.2.1, 700, .inl r_t_text))]
abbrev rm_X8_takeSign : Room := { frames := 4, cells := 0, slots := 0, locals := 106 }
def f_X8_takeSign (v_t_at : Int32) (v_t_kind : Int32) (v_t_sign : Int32) (r_t_text : Nat → Int32) : Option (Int32 × Int32 × Int32) :=
  gs_gd (gs_in v_t_at 700) <|
  gs_gd (gs_cf ((((r_t_text v_t_at.toNatClampNeg) &&& 255).toUInt32 % 65536).toInt32)) <|
  gs_b1 (f_J0_indexOf_0f7a4 18 ((((r_t_text v_t_at.toNatClampNeg) &&& 255).toUInt32 % 65536).toInt32)) fun r3 =>
  if r3 < 0 then
    some (v_t_at + 1, 4, (((r_t_text v_t_at.toNatClampNeg) &&& 255).toUInt32 % 65536).toInt32)
  else
    some (v_t_at + 1, 3, (((r_t_text v_t_at.toNatClampNeg) &&& 255).toUInt32 % 65536).toInt32)
set_option maxHeartbeats 4000000 in
set_option maxRecDepth 100000 in
theorem c_X8_takeSign (l : Launch) (E : gs_E) (J : gs_J) (a_t a_t_text : Nat) (v_t_length : Int32) (v_t_at : Int32) (v_t_kind : Int32) (v_t_start : Int32) (v_t_value : Int32) (v_t_sign : Int32) (v_t_fault : Int32) (v_t_place : Int32) (r_t_text : Nat → Int32) (o_t_at : Int32) (o_t_kind : Int32) (o_t_sign : Int32) (h : f_X8_takeSign v_t_at v_t_kind v_t_sign r_t_text = some (o_t_at, o_t_kind, o_t_sign)) : gs_MWS l yX8_takeSign wsX8_takeSign rm_X8_takeSign [.ref a_t] E J (w_X8_takeSign E a_t a_t_text v_t_length v_t_at v_t_kind v_t_start v_t_value v_t_sign v_t_fault v_t_place r_t_text) (w_X8_takeSign E a_t a_t_text v_t_length o_t_at o_t_kind v_t_start v_t_value o_t_sign v_t_fault v_t_place r_t_text) none := by
  refine Met.ofW (cc := cX8_takeSign) (maxL := 1) (ret := none) (by decide) rfl ?_
  intro p e s m args below meth c s₁ B hml hv
  obtain ⟨rfl, hP, hk, hD0, hAm⟩ := hv
  have X0 : gs_X wsX8_takeSign cX8_takeSign RX8 1 none p s m ([.ref a_t] : List Value).toArray meth c := gs_X.of B hml
  obtain ⟨hx, hb, -, hown, hts, hr, hlk⟩ := id X0
  have hD := (gs_D_self hD0)
  have hA0 : ∀ q, gs_w (w_X8_takeSign E a_t a_t_text v_t_length v_t_at v_t_kind v_t_start v_t_value v_t_sign v_t_fault v_t_place r_t_text) q → J.1 ≤ q := gs_w_le hD0
  generalize hAe : gs_w (w_X8_takeSign E a_t a_t_text v_t_length v_t_at v_t_kind v_t_start v_t_value v_t_sign v_t_fault v_t_place r_t_text) = A at hD hA0 ⊢
  have hS : va_S A s.heap s.heap [] := va_S.rf
  have hret : ∀ (H : Heap) (locs : List Loc) (pc : Nat) (ls : Array Slot), va_P E.1 vwCl (w_X8_takeSign E a_t a_t_text v_t_length o_t_at o_t_kind v_t_start v_t_value o_t_sign v_t_fault v_t_place r_t_text) H → va_S A s.heap H locs → decode cX8_takeSign pc = .ok (.return_, 1) → W p l e rm_X8_takeSign s m ([.ref a_t] : List Value).toArray below meth c H locs 0 0 (MQ below (gs_QWA E A (w_X8_takeSign E a_t a_t_text v_t_length o_t_at o_t_kind v_t_start v_t_value o_t_sign v_t_fault v_t_place r_t_text) none) ([.ref a_t] : List Value).toArray s 0 0 A) (F0 m pc ls []) := fun H locs pc ls hP hS hd => W.vret hx hb hr (fun t ht hW => ⟨rfl, by rw [ht]; exact hP, hS.F ht⟩) hS.2.2 hd
  have hl := lv_entry ([.ref a_t]) (n := 1) (Nat.le_of_ble_eq_true rfl)
  rw [lg_entry_eq]
  generalize (lg_sl ([.ref a_t]) ++ List.replicate (1 - (lg_sl ([.ref a_t])).length) Slot.unset).toArray = ls at hl ⊢
  have hl : lv_has ls 1 [(0, .ref a_t)] := hl
  unfold f_X8_takeSign at h
  refine lv_aload_n hx hb dX8_takeSign_0 rfl (lv_at hl 0 rfl) ?_
  refine lv_aload_n hx hb dX8_takeSign_1 rfl (lv_at hl 0 rfl) ?_
  refine va_get (D := E.1) (ci := 8) (v := .ref a_t_text) (C := RX8) (T := TX8) (N := 9) hx hb hts (fun _ h => (List.mem_cons_of_mem _ (List.mem_append_right _ h))) hown hk.1 hP 0 rfl rfl 0 (by decide) (hts (.fieldLink RX8 37 "GapSongs$Tokens" "text" "[B") (List.mem_cons_of_mem _ (List.mem_append_left _ (List.mem_append_left _ (List.mem_of_getElem? (i := 0) rfl))))) (fun _ h9 => h9) rfl dX8_takeSign_2 ?_
  refine lv_aload_n hx hb dX8_takeSign_5 rfl (lv_at hl 0 rfl) ?_
  refine va_get (D := E.1) (ci := 8) (v := .int v_t_at) (C := RX8) (T := TX8) (N := 9) hx hb hts (fun _ h => (List.mem_cons_of_mem _ (List.mem_append_right _ h))) hown hk.1 hP 0 rfl rfl 2 (by decide) (hts (.fieldLink RX8 15 "GapSongs$Tokens" "at" "I") (List.mem_cons_of_mem _ (List.mem_append_left _ (List.mem_append_left _ (List.mem_of_getElem? (i := 1) rfl))))) (fun _ h9 => h9) rfl dX8_takeSign_6 ?_
  obtain ⟨g1, h⟩ := gs_gd_e h
  refine va_bald hx hb hk.1 hP 1 1 rfl rfl (gs_in_e g1) dX8_takeSign_9 ?_
  refine lv_sipush (v := 255) hx hb dX8_takeSign_10 (by decide) ?_
  refine lv_iand hx hb dX8_takeSign_13 ?_
  refine lv_i2c (v := (((r_t_text v_t_at.toNatClampNeg) &&& 255).toUInt32 % 65536).toInt32) hx hb dX8_takeSign_14 rfl ?_
  obtain ⟨g2, h⟩ := gs_gd_e h
  refine va_put (D := E.1) (ci := 8) (v := .int ((((r_t_text v_t_at.toNatClampNeg) &&& 255).toUInt32 % 65536).toInt32)) (ty := .char) (C := RX8) (T := TX8) (N := 9) hx hb hts (fun _ h => (List.mem_cons_of_mem _ (List.mem_append_right _ h))) tyX8 tyX8_ok nmX8 hown hk.1 hP hD hS 0 rfl rfl 6 (by decide) (hts (.fieldLink RX8 27 "GapSongs$Tokens" "sign" "C") (List.mem_cons_of_mem _ (List.mem_append_left _ (List.mem_append_left _ (List.mem_of_getElem? (i := 2) rfl))))) (fun _ h9 => h9) rfl (by decide +kernel) (gs_cf_e g2) (gs_cf_f g2) (Nat.le_of_ble_eq_true rfl) dX8_takeSign_15 (fun H locs hP hD hS => ?_)
  have hP : va_P E.1 vwCl (w_X8_takeSign E a_t a_t_text v_t_length v_t_at v_t_kind v_t_start v_t_value ((((r_t_text v_t_at.toNatClampNeg) &&& 255).toUInt32 % 65536).toInt32) v_t_fault v_t_place r_t_text) H := hP
  have hD : va_D A (w_X8_takeSign E a_t a_t_text v_t_length v_t_at v_t_kind v_t_start v_t_value ((((r_t_text v_t_at.toNatClampNeg) &&& 255).toUInt32 % 65536).toInt32) v_t_fault v_t_place r_t_text) := hD
  refine lv_aload_n hx hb dX8_takeSign_18 rfl (lv_at hl 0 rfl) ?_
  refine va_ldcS (own := RX8) (index := 66) (tx := ";()+-*/<=") (q := J.2.1 18) hx hb hown (hAm.2.1 18) dX8_takeSign_19 ?_
  refine lv_aload_n hx hb dX8_takeSign_21 rfl (lv_at hl 0 rfl) ?_
  refine va_get (D := E.1) (ci := 8) (v := .int ((((r_t_text v_t_at.toNatClampNeg) &&& 255).toUInt32 % 65536).toInt32)) (C := RX8) (T := TX8) (N := 9) hx hb hts (fun _ h => (List.mem_cons_of_mem _ (List.mem_append_right _ h))) hown hk.1 hP 0 rfl rfl 6 (by decide) (hts (.fieldLink RX8 27 "GapSongs$Tokens" "sign" "C") (List.mem_cons_of_mem _ (List.mem_append_left _ (List.mem_append_left _ (List.mem_of_getElem? (i := 2) rfl))))) (fun _ h9 => h9) rfl dX8_takeSign_22 ?_
  obtain ⟨r3, hz3, h⟩ := gs_b1_e h
  refine gs_backRi (va_runV (As := [.int ((((r_t_text v_t_at.toNatClampNeg) &&& 255).toUInt32 % 65536).toInt32)]) (rest := [.ref a_t]) ⟨hx, hb, hml, hown, hts⟩ (c_J0_indexOf_0f7a4 l E J 18 ((((r_t_text v_t_at.toNatClampNeg) &&& 255).toUInt32 % 65536).toInt32) r3 hz3) (cwV 1 hts gX8_takeSign_J0_indexOf_0f7a4 rfl rfl rfl (by decide +kernel) ⟨Nat.le_of_ble_eq_true rfl, Nat.le_of_ble_eq_true rfl⟩) (gs_preVs (i := 18) hk hAm hP hD hA0 hS (is := []) rfl rfl) rfl rfl hl.1 rfl (lv_room (Nat.le_of_ble_eq_true rfl)) dX8_takeSign_25 ⟨Nat.zero_le _, Nat.zero_le _⟩) ?_
  refine lv_if_lt (tgt := 35) hx hb dX8_takeSign_28 (by decide) (fun c4 => ?_) (fun c4 => ?_)
  · replace h := gs_ift c4 h
    refine lv_iconst (v := 4) hx hb dX8_takeSign_35 (by decide) ?_
    refine va_put (D := E.1) (ci := 8) (v := .int 4) (ty := .int) (C := RX8) (T := TX8) (N := 9) hx hb hts (fun _ h => (List.mem_cons_of_mem _ (List.mem_append_right _ h))) tyX8 tyX8_ok nmX8 hown hk.1 hP hD hS 0 rfl rfl 3 (by decide) (hts (.fieldLink RX8 18 "GapSongs$Tokens" "kind" "I") (List.mem_cons_of_mem _ (List.mem_append_left _ (List.mem_append_left _ (List.mem_of_getElem? (i := 3) rfl))))) (fun _ h9 => h9) rfl (by decide +kernel) rfl rfl (Nat.le_of_ble_eq_true rfl) dX8_takeSign_36 (fun H locs hP hD hS => ?_)
    have hP : va_P E.1 vwCl (w_X8_takeSign E a_t a_t_text v_t_length v_t_at 4 v_t_start v_t_value ((((r_t_text v_t_at.toNatClampNeg) &&& 255).toUInt32 % 65536).toInt32) v_t_fault v_t_place r_t_text) H := hP
    have hD : va_D A (w_X8_takeSign E a_t a_t_text v_t_length v_t_at 4 v_t_start v_t_value ((((r_t_text v_t_at.toNatClampNeg) &&& 255).toUInt32 % 65536).toInt32) v_t_fault v_t_place r_t_text) := hD
    refine lv_aload_n hx hb dX8_takeSign_39 rfl (lv_at hl 0 rfl) ?_
    refine lv_dup hx hb dX8_takeSign_40 rfl ?_
    refine va_get (D := E.1) (ci := 8) (v := .int v_t_at) (C := RX8) (T := TX8) (N := 9) hx hb hts (fun _ h => (List.mem_cons_of_mem _ (List.mem_append_right _ h))) hown hk.1 hP 0 rfl rfl 2 (by decide) (hts (.fieldLink RX8 15 "GapSongs$Tokens" "at" "I") (List.mem_cons_of_mem _ (List.mem_append_left _ (List.mem_append_left _ (List.mem_of_getElem? (i := 1) rfl))))) (fun _ h9 => h9) rfl dX8_takeSign_41 ?_
    refine lv_iconst (v := 1) hx hb dX8_takeSign_44 (by decide) ?_
    refine lv_iadd hx hb dX8_takeSign_45 ?_
    refine va_put (D := E.1) (ci := 8) (v := .int (v_t_at + 1)) (ty := .int) (C := RX8) (T := TX8) (N := 9) hx hb hts (fun _ h => (List.mem_cons_of_mem _ (List.mem_append_right _ h))) tyX8 tyX8_ok nmX8 hown hk.1 hP hD hS 0 rfl rfl 2 (by decide) (hts (.fieldLink RX8 15 "GapSongs$Tokens" "at" "I") (List.mem_cons_of_mem _ (List.mem_append_left _ (List.mem_append_left _ (List.mem_of_getElem? (i := 1) rfl))))) (fun _ h9 => h9) rfl (by decide +kernel) rfl rfl (Nat.le_of_ble_eq_true rfl) dX8_takeSign_46 (fun H locs hP hD hS => ?_)
    have hP : va_P E.1 vwCl (w_X8_takeSign E a_t a_t_text v_t_length (v_t_at + 1) 4 v_t_start v_t_value ((((r_t_text v_t_at.toNatClampNeg) &&& 255).toUInt32 % 65536).toInt32) v_t_fault v_t_place r_t_text) H := hP
    have hD : va_D A (w_X8_takeSign E a_t a_t_text v_t_length (v_t_at + 1) 4 v_t_start v_t_value ((((r_t_text v_t_at.toNatClampNeg) &&& 255).toUInt32 % 65536).toInt32) v_t_fault v_t_place r_t_text) := hD
    have h := Option.some.inj h
    obtain ⟨w0, h⟩ := Prod.mk.inj h
    obtain ⟨w1, h⟩ := Prod.mk.inj h
    subst h
    subst w0
    subst w1
    exact hret _ _ _ _ hP hS dX8_takeSign_49
  · replace h := gs_iff c4 h
    refine lv_iconst (v := 3) hx hb dX8_takeSign_31 (by decide) ?_
    refine lv_goto (tgt := 36) hx hb dX8_takeSign_32 (by decide) ?_
    refine va_put (D := E.1) (ci := 8) (v := .int 3) (ty := .int) (C := RX8) (T := TX8) (N := 9) hx hb hts (fun _ h => (List.mem_cons_of_mem _ (List.mem_append_right _ h))) tyX8 tyX8_ok nmX8 hown hk.1 hP hD hS 0 rfl rfl 3 (by decide) (hts (.fieldLink RX8 18 "GapSongs$Tokens" "kind" "I") (List.mem_cons_of_mem _ (List.mem_append_left _ (List.mem_append_left _ (List.mem_of_getElem? (i := 3) rfl))))) (fun _ h9 => h9) rfl (by decide +kernel) rfl rfl (Nat.le_of_ble_eq_true rfl) dX8_takeSign_36 (fun H locs hP hD hS => ?_)
    have hP : va_P E.1 vwCl (w_X8_takeSign E a_t a_t_text v_t_length v_t_at 3 v_t_start v_t_value ((((r_t_text v_t_at.toNatClampNeg) &&& 255).toUInt32 % 65536).toInt32) v_t_fault v_t_place r_t_text) H := hP
    have hD : va_D A (w_X8_takeSign E a_t a_t_text v_t_length v_t_at 3 v_t_start v_t_value ((((r_t_text v_t_at.toNatClampNeg) &&& 255).toUInt32 % 65536).toInt32) v_t_fault v_t_place r_t_text) := hD
    refine lv_aload_n hx hb dX8_takeSign_39 rfl (lv_at hl 0 rfl) ?_
    refine lv_dup hx hb dX8_takeSign_40 rfl ?_
    refine va_get (D := E.1) (ci := 8) (v := .int v_t_at) (C := RX8) (T := TX8) (N := 9) hx hb hts (fun _ h => (List.mem_cons_of_mem _ (List.mem_append_right _ h))) hown hk.1 hP 0 rfl rfl 2 (by decide) (hts (.fieldLink RX8 15 "GapSongs$Tokens" "at" "I") (List.mem_cons_of_mem _ (List.mem_append_left _ (List.mem_append_left _ (List.mem_of_getElem? (i := 1) rfl))))) (fun _ h9 => h9) rfl dX8_takeSign_41 ?_
    refine lv_iconst (v := 1) hx hb dX8_takeSign_44 (by decide) ?_
    refine lv_iadd hx hb dX8_takeSign_45 ?_
    refine va_put (D := E.1) (ci := 8) (v := .int (v_t_at + 1)) (ty := .int) (C := RX8) (T := TX8) (N := 9) hx hb hts (fun _ h => (List.mem_cons_of_mem _ (List.mem_append_right _ h))) tyX8 tyX8_ok nmX8 hown hk.1 hP hD hS 0 rfl rfl 2 (by decide) (hts (.fieldLink RX8 15 "GapSongs$Tokens" "at" "I") (List.mem_cons_of_mem _ (List.mem_append_left _ (List.mem_append_left _ (List.mem_of_getElem? (i := 1) rfl))))) (fun _ h9 => h9) rfl (by decide +kernel) rfl rfl (Nat.le_of_ble_eq_true rfl) dX8_takeSign_46 (fun H locs hP hD hS => ?_)
    have hP : va_P E.1 vwCl (w_X8_takeSign E a_t a_t_text v_t_length (v_t_at + 1) 3 v_t_start v_t_value ((((r_t_text v_t_at.toNatClampNeg) &&& 255).toUInt32 % 65536).toInt32) v_t_fault v_t_place r_t_text) H := hP
    have hD : va_D A (w_X8_takeSign E a_t a_t_text v_t_length (v_t_at + 1) 3 v_t_start v_t_value ((((r_t_text v_t_at.toNatClampNeg) &&& 255).toUInt32 % 65536).toInt32) v_t_fault v_t_place r_t_text) := hD
    have h := Option.some.inj h
    obtain ⟨w0, h⟩ := Prod.mk.inj h
    obtain ⟨w1, h⟩ := Prod.mk.inj h
    subst h
    subst w0
    subst w1
    exact hret _ _ _ _ hP hS dX8_takeSign_49

theorem dX8_next_25 : decode cX8_next 25 = .ok (.getfield 15, 3) := by decide +kernel
theorem dX8_next_28 : decode cX8_next 28 = .ok (.baload, 1) := by decide +kernel
theorem dX8_next_29 : decode cX8_next 29 = .ok (.bipush 32, 2) := by decide +kernel
theorem dX8_next_31 : decode cX8_next 31 = .ok (.if_icmp .eq 17, 3) := by decide +kernel
theorem dX8_next_34 : decode cX8_next 34 = .ok (.aload_n 0, 1) := by decide +kernel
theorem dX8_next_35 : decode cX8_next 35 = .ok (.getfield 37, 3) := by decide +kernel
theorem dX8_next_38 : decode cX8_next 38 = .ok (.aload_n 0, 1) := by decide +kernel
theorem dX8_next_39 : decode cX8_next 39 = .ok (.getfield 15, 3) := by decide +kernel
theorem dX8_next_42 : decode cX8_next 42 = .ok (.baload, 1) := by decide +kernel
theorem dX8_next_43 : decode cX8_next 43 = .ok (.bipush 10, 2) := by decide +kernel
theorem dX8_next_45 : decode cX8_next 45 = .ok (.if_icmp .ne 16, 3) := by decide +kernel
theorem dX8_next_48 : decode cX8_next 48 = .ok (.aload_n 0, 1) := by decide +kernel
theorem dX8_next_49 : decode cX8_next 49 = .ok (.dup, 1) := by decide +kernel
theorem dX8_next_50 : decode cX8_next 50 = .ok (.getfield 15, 3) := by decide +kernel
theorem dX8_next_53 : decode cX8_next 53 = .ok (.iconst 1, 1) := by decide +kernel
theorem dX8_next_54 : decode cX8_next 54 = .ok (.iadd, 1) := by decide +kernel
theorem dX8_next_55 : decode cX8_next 55 = .ok (.putfield 15, 3) := by decide +kernel
theorem dX8_next_58 : decode cX8_next 58 = .ok (.goto (-49), 3) := by decide +kernel
theorem dX8_next_61 : decode cX8_next 61 = .ok (.aload_n 0, 1) := by decide +kernel
theorem dX8_next_62 : decode cX8_next 62 = .ok (.aload_n 0, 1) := by decide +kernel
theorem dX8_next_63 : decode cX8_next 63 = .ok (.getfield 15, 3) := by decide +kernel
theorem dX8_next_66 : decode cX8_next 66 = .ok (.putfield 21, 3) := by decide +kernel
theorem dX8_next_69 : decode cX8_next 69 = .ok (.aload_n 0, 1) := by decide +kernel
theorem dX8_next_70 : decode cX8_next 70 = .ok (.getfield 15, 3) := by decide +kernel
theorem dX8_next_73 : decode cX8_next 73 = .ok (.aload_n 0, 1) := by decide +kernel
theorem dX8_next_74 : decode cX8_next 74 = .ok (.getfield 9, 3) := by decide +kernel
theorem dX8_next_77 : decode cX8_next 77 = .ok (.if_icmp .lt 11, 3) := by decide +kernel
theorem dX8_next_80 : decode cX8_next 80 = .ok (.aload_n 0, 1) := by decide +kernel
theorem dX8_next_81 : decode cX8_next 81 = .ok (.iconst 0, 1) := by decide +kernel
theorem dX8_next_82 : decode cX8_next 82 = .ok (.putfield 18, 3) := by decide +kernel
theorem dX8_next_85 : decode cX8_next 85 = .ok (.goto 51, 3) := by decide +kernel
theorem dX8_next_88 : decode cX8_next 88 = .ok (.aload_n 0, 1) := by decide +kernel
theorem dX8_next_89 : decode cX8_next 89 = .ok (.getfield 37, 3) := by decide +kernel
theorem dX8_next_92 : decode cX8_next 92 = .ok (.aload_n 0, 1) := by decide +kernel
theorem dX8_next_93 : decode cX8_next 93 = .ok (.getfield 15, 3) := by decide +kernel
theorem dX8_next_96 : decode cX8_next 96 = .ok (.baload, 1) := by decide +kernel
theorem dX8_next_97 : decode cX8_next 97 = .ok (.invokestatic 50, 3) := by decide +kernel
theorem dX8_next_100 : decode cX8_next 100 = .ok (.ifCond .eq 10, 3) := by decide +kernel
theorem dX8_next_103 : decode cX8_next 103 = .ok (.aload_n 0, 1) := by decide +kernel
theorem dX8_next_104 : decode cX8_next 104 = .ok (.invokevirtual 54, 3) := by decide +kernel
theorem dX8_next_107 : decode cX8_next 107 = .ok (.goto 29, 3) := by decide +kernel
theorem dX8_next_110 : decode cX8_next 110 = .ok (.aload_n 0, 1) := by decide +kernel
theorem dX8_next_111 : decode cX8_next 111 = .ok (.getfield 37, 3) := by decide +kernel
theorem dX8_next_114 : decode cX8_next 114 = .ok (.aload_n 0, 1) := by decide +kernel
theorem dX8_next_115 : decode cX8_next 115 = .ok (.getfield 15, 3) := by decide +kernel
theorem dX8_next_118 : decode cX8_next 118 = .ok (.baload, 1) := by decide +kernel
theorem dX8_next_119 : decode cX8_next 119 = .ok (.invokestatic 57, 3) := by decide +kernel
theorem dX8_next_122 : decode cX8_next 122 = .ok (.ifCond .eq 10, 3) := by decide +kernel
theorem dX8_next_125 : decode cX8_next 125 = .ok (.aload_n 0, 1) := by decide +kernel
theorem dX8_next_126 : decode cX8_next 126 = .ok (.invokevirtual 60, 3) := by decide +kernel
theorem dX8_next_129 : decode cX8_next 129 = .ok (.goto 7, 3) := by decide +kernel
theorem dX8_next_132 : decode cX8_next 132 = .ok (.aload_n 0, 1) := by decide +kernel
theorem dX8_next_133 : decode cX8_next 133 = .ok (.invokevirtual 63, 3) := by decide +kernel
theorem dX8_next_136 : decode cX8_next 136 = .ok (.return_, 1) := by decide +kernel
abbrev w_X8_next (E : gs_E) (a_t a_t_text : Nat) (v_t_length : Int32) (v_t_at : Int32) (v_t_kind : Int32) (v_t_start : Int32) (v_t_value : Int32) (v_t_sign : Int32) (v_t_fault : Int32) (v_t_place : Int32) (r_t_text : Nat → Int32) : va_W := [(a_t, .inr (8, [.ref a_t_text, .int v_t_length, .int v_t_at, .int v_t_kind, .int v_t_start, .int v_t_value, .int v_t_sign, .int v_t_fault, .int v_t_place])), (a_t_text, .inl (E.2.2.1, 700, .inl r_t_text))]
abbrev rm_X8_next : Room := { frames := 5, cells := 0, slots := 0, locals := 126 }
def S_X8_next_9 (p : Program) (l : Launch) (e : Env) (s : State) (m : MethodId) (args : Array Value) (below : List Frame) (meth : Method) (c : Code) (Q : State → Prop) (J : gs_J) (a_t a_t_text : Nat) (E : gs_E) (A : Nat → Prop) (v_t_length : Int32) (v_t_at : Int32) (v_t_kind : Int32) (v_t_start : Int32) (v_t_value : Int32) (v_t_sign : Int32) (v_t_fault : Int32) (v_t_place : Int32) (r_t_text : Nat → Int32) : Prop := ∀ (H : Heap) (locs : List Loc) (ls : Array Slot), va_P E.1 vwCl (w_X8_next E a_t a_t_text v_t_length v_t_at v_t_kind v_t_start v_t_value v_t_sign v_t_fault v_t_place r_t_text) H → va_D A (w_X8_next E a_t a_t_text v_t_length v_t_at v_t_kind v_t_start v_t_value v_t_sign v_t_fault v_t_place r_t_text) → va_S A s.heap H locs → lv_has ls 1 [(0, .ref a_t)] → W p l e rm_X8_next s m args below meth c H locs 0 0 Q (F0 m 9 ls [])
def S_X8_next_61 (p : Program) (l : Launch) (e : Env) (s : State) (m : MethodId) (args : Array Value) (below : List Frame) (meth : Method) (c : Code) (Q : State → Prop) (J : gs_J) (a_t a_t_text : Nat) (E : gs_E) (A : Nat → Prop) (v_t_length : Int32) (v_t_at : Int32) (v_t_kind : Int32) (v_t_start : Int32) (v_t_value : Int32) (v_t_sign : Int32) (v_t_fault : Int32) (v_t_place : Int32) (r_t_text : Nat → Int32) : Prop := ∀ (H : Heap) (locs : List Loc) (ls : Array Slot), va_P E.1 vwCl (w_X8_next E a_t a_t_text v_t_length v_t_at v_t_kind v_t_start v_t_value v_t_sign v_t_fault v_t_place r_t_text) H → va_D A (w_X8_next E a_t a_t_text v_t_length v_t_at v_t_kind v_t_start v_t_value v_t_sign v_t_fault v_t_place r_t_text) → va_S A s.heap H locs → lv_has ls 1 [(0, .ref a_t)] → W p l e rm_X8_next s m args below meth c H locs 0 0 Q (F0 m 61 ls [])
def f_X8_next_9 (v_t_length : Int32) (v_t_kind : Int32) (v_t_start : Int32) (v_t_value : Int32) (v_t_sign : Int32) (r_t_text : Nat → Int32) (K61 : Int32 → Option (Int32 × Int32 × Int32 × Int32 × Int32)) (K9 : Int32 → Option (Int32 × Int32 × Int32 × Int32 × Int32)) (v_t_at : Int32) : Option (Int32 × Int32 × Int32 × Int32 × Int32) :=
  if v_t_length ≤ v_t_at then
    K61 v_t_at
  else
    gs_gd (gs_in v_t_at 700) <|
    if (r_t_text v_t_at.toNatClampNeg) = 32 then
      K9 (v_t_at + 1)
    else
      gs_gd (gs_in v_t_at 700) <|
      if (r_t_text v_t_at.toNatClampNeg) = 10 then
        K9 (v_t_at + 1)
      else
        K61 v_t_at
set_option maxHeartbeats 4000000 in
set_option maxRecDepth 100000 in
theorem t_X8_next_9_b {p : Program} {l : Launch} {e : Env} {s : State} {m : MethodId} {args : Array Value} {below : List Frame} {meth : Method} {c : Code} {Q : State → Prop} {E : gs_E} {A : Nat → Prop} {J : gs_J} {a_t a_t_text : Nat} {o_t_at : Int32} {o_t_kind : Int32} {o_t_start : Int32} {o_t_value : Int32} {o_t_sign : Int32} (X0 : gs_X wsX8_next cX8_next RX8 1 none p s m args meth c) (hk : gs_K E s) (hAm : gs_Amb J s) (hA0 : ∀ q, A q → J.1 ≤ q) {v_t_length : Int32} {v_t_at : Int32} {v_t_kind : Int32} {v_t_start : Int32} {v_t_value : Int32} {v_t_sign : Int32} {v_t_fault : Int32} {v_t_place : Int32} {r_t_text : Nat → Int32} (hret : ∀ (H : Heap) (locs : List Loc) (pc : Nat) (ls : Array Slot), va_P E.1 vwCl (w_X8_next E a_t a_t_text v_t_length o_t_at o_t_kind o_t_start o_t_value o_t_sign v_t_fault v_t_place r_t_text) H → va_S A s.heap H locs → decode cX8_next pc = .ok (.return_, 1) → W p l e rm_X8_next s m args below meth c H locs 0 0 Q (F0 m pc ls [])) {K61 : Int32 → Option (Int32 × Int32 × Int32 × Int32 × Int32)} (hK61 : ∀ (v_t_at : Int32), K61 v_t_at = some (o_t_at, o_t_kind, o_t_start, o_t_value, o_t_sign) → S_X8_next_61 p l e s m args below meth c Q J a_t a_t_text E A v_t_length v_t_at v_t_kind v_t_start v_t_value v_t_sign v_t_fault v_t_place r_t_text) {K9 : Int32 → Option (Int32 × Int32 × Int32 × Int32 × Int32)} (hK9 : ∀ (v_t_at : Int32), K9 v_t_at = some (o_t_at, o_t_kind, o_t_start, o_t_value, o_t_sign) → S_X8_next_9 p l e s m args below meth c Q J a_t a_t_text E A v_t_length v_t_at v_t_kind v_t_start v_t_value v_t_sign v_t_fault v_t_place r_t_text) (h : f_X8_next_9 v_t_length v_t_kind v_t_start v_t_value v_t_sign r_t_text K61 K9 v_t_at = some (o_t_at, o_t_kind, o_t_start, o_t_value, o_t_sign)) : S_X8_next_9 p l e s m args below meth c Q J a_t a_t_text E A v_t_length v_t_at v_t_kind v_t_start v_t_value v_t_sign v_t_fault v_t_place r_t_text := by
  obtain ⟨hx, hb, hml, hown, hts, hr, hlk⟩ := id X0
  intro H locs ls hP hD hS hl
  unfold f_X8_next_9 at h
  refine lv_aload_n hx hb dX8_next_9 rfl (lv_at hl 0 rfl) ?_
  refine va_get (D := E.1) (ci := 8) (v := .int v_t_at) (C := RX8) (T := TX8) (N := 9) hx hb hts (fun _ h => (List.mem_cons_of_mem _ (List.mem_append_right _ h))) hown hk.1 hP 0 rfl rfl 2 (by decide) (hts (.fieldLink RX8 15 "GapSongs$Tokens" "at" "I") (List.mem_cons_of_mem _ (List.mem_append_left _ (List.mem_append_left _ (List.mem_of_getElem? (i := 1) rfl))))) (fun _ h9 => h9) rfl dX8_next_10 ?_
  refine lv_aload_n hx hb dX8_next_13 rfl (lv_at hl 0 rfl) ?_
  refine va_get (D := E.1) (ci := 8) (v := .int v_t_length) (C := RX8) (T := TX8) (N := 9) hx hb hts (fun _ h => (List.mem_cons_of_mem _ (List.mem_append_right _ h))) hown hk.1 hP 0 rfl rfl 1 (by decide) (hts (.fieldLink RX8 9 "GapSongs$Tokens" "length" "I") (List.mem_cons_of_mem _ (List.mem_append_left _ (List.mem_append_left _ (List.mem_of_getElem? (i := 2) rfl))))) (fun _ h9 => h9) rfl dX8_next_14 ?_
  refine lv_icmp_ge (tgt := 61) hx hb dX8_next_17 (by decide) (fun c2 => ?_) (fun c2 => ?_)
  · replace h := gs_ift c2 h
    exact hK61 v_t_at h _ _ _ hP hD hS (lv_sub hl [0] rfl)
  · replace h := gs_iff c2 h
    refine lv_aload_n hx hb dX8_next_20 rfl (lv_at hl 0 rfl) ?_
    refine va_get (D := E.1) (ci := 8) (v := .ref a_t_text) (C := RX8) (T := TX8) (N := 9) hx hb hts (fun _ h => (List.mem_cons_of_mem _ (List.mem_append_right _ h))) hown hk.1 hP 0 rfl rfl 0 (by decide) (hts (.fieldLink RX8 37 "GapSongs$Tokens" "text" "[B") (List.mem_cons_of_mem _ (List.mem_append_left _ (List.mem_append_left _ (List.mem_of_getElem? (i := 3) rfl))))) (fun _ h9 => h9) rfl dX8_next_21 ?_
    refine lv_aload_n hx hb dX8_next_24 rfl (lv_at hl 0 rfl) ?_
    refine va_get (D := E.1) (ci := 8) (v := .int v_t_at) (C := RX8) (T := TX8) (N := 9) hx hb hts (fun _ h => (List.mem_cons_of_mem _ (List.mem_append_right _ h))) hown hk.1 hP 0 rfl rfl 2 (by decide) (hts (.fieldLink RX8 15 "GapSongs$Tokens" "at" "I") (List.mem_cons_of_mem _ (List.mem_append_left _ (List.mem_append_left _ (List.mem_of_getElem? (i := 1) rfl))))) (fun _ h9 => h9) rfl dX8_next_25 ?_
    obtain ⟨g3, h⟩ := gs_gd_e h
    refine va_bald hx hb hk.1 hP 1 1 rfl rfl (gs_in_e g3) dX8_next_28 ?_
    refine lv_bipush (v := 32) hx hb dX8_next_29 (by decide) ?_
    refine lv_icmp_eq (tgt := 48) hx hb dX8_next_31 (by decide) (fun c4 => ?_) (fun c4 => ?_)
    · replace h := gs_ift c4 h
      refine lv_aload_n hx hb dX8_next_48 rfl (lv_at hl 0 rfl) ?_
      refine lv_dup hx hb dX8_next_49 rfl ?_
      refine va_get (D := E.1) (ci := 8) (v := .int v_t_at) (C := RX8) (T := TX8) (N := 9) hx hb hts (fun _ h => (List.mem_cons_of_mem _ (List.mem_append_right _ h))) hown hk.1 hP 0 rfl rfl 2 (by decide) (hts (.fieldLink RX8 15 "GapSongs$Tokens" "at" "I") (List.mem_cons_of_mem _ (List.mem_append_left _ (List.mem_append_left _ (List.mem_of_getElem? (i := 1) rfl))))) (fun _ h9 => h9) rfl dX8_next_50 ?_
      refine lv_iconst (v := 1) hx hb dX8_next_53 (by decide) ?_
      refine lv_iadd hx hb dX8_next_54 ?_
      refine va_put (D := E.1) (ci := 8) (v := .int (v_t_at + 1)) (ty := .int) (C := RX8) (T := TX8) (N := 9) hx hb hts (fun _ h => (List.mem_cons_of_mem _ (List.mem_append_right _ h))) tyX8 tyX8_ok nmX8 hown hk.1 hP hD hS 0 rfl rfl 2 (by decide) (hts (.fieldLink RX8 15 "GapSongs$Tokens" "at" "I") (List.mem_cons_of_mem _ (List.mem_append_left _ (List.mem_append_left _ (List.mem_of_getElem? (i := 1) rfl))))) (fun _ h9 => h9) rfl (by decide +kernel) rfl rfl (Nat.le_of_ble_eq_true rfl) dX8_next_55 (fun H locs hP hD hS => ?_)
      have hP : va_P E.1 vwCl (w_X8_next E a_t a_t_text v_t_length (v_t_at + 1) v_t_kind v_t_start v_t_value v_t_sign v_t_fault v_t_place r_t_text) H := hP
      have hD : va_D A (w_X8_next E a_t a_t_text v_t_length (v_t_at + 1) v_t_kind v_t_start v_t_value v_t_sign v_t_fault v_t_place r_t_text) := hD
      refine lv_goto (tgt := 9) hx hb dX8_next_58 (by decide) ?_
      exact hK9 (v_t_at + 1) h _ _ _ hP hD hS (lv_sub hl [0] rfl)
    · replace h := gs_iff c4 h
      refine lv_aload_n hx hb dX8_next_34 rfl (lv_at hl 0 rfl) ?_
      refine va_get (D := E.1) (ci := 8) (v := .ref a_t_text) (C := RX8) (T := TX8) (N := 9) hx hb hts (fun _ h => (List.mem_cons_of_mem _ (List.mem_append_right _ h))) hown hk.1 hP 0 rfl rfl 0 (by decide) (hts (.fieldLink RX8 37 "GapSongs$Tokens" "text" "[B") (List.mem_cons_of_mem _ (List.mem_append_left _ (List.mem_append_left _ (List.mem_of_getElem? (i := 3) rfl))))) (fun _ h9 => h9) rfl dX8_next_35 ?_
      refine lv_aload_n hx hb dX8_next_38 rfl (lv_at hl 0 rfl) ?_
      refine va_get (D := E.1) (ci := 8) (v := .int v_t_at) (C := RX8) (T := TX8) (N := 9) hx hb hts (fun _ h => (List.mem_cons_of_mem _ (List.mem_append_right _ h))) hown hk.1 hP 0 rfl rfl 2 (by decide) (hts (.fieldLink RX8 15 "GapSongs$Tokens" "at" "I") (List.mem_cons_of_mem _ (List.mem_append_left _ (List.mem_append_left _ (List.mem_of_getElem? (i := 1) rfl))))) (fun _ h9 => h9) rfl dX8_next_39 ?_
      obtain ⟨g5, h⟩ := gs_gd_e h
      refine va_bald hx hb hk.1 hP 1 1 rfl rfl (gs_in_e g5) dX8_next_42 ?_
      refine lv_bipush (v := 10) hx hb dX8_next_43 (by decide) ?_
      refine lv_icmp_ne (tgt := 61) hx hb dX8_next_45 (by decide) (fun c6 => ?_) (fun c6 => ?_)
      · replace h := gs_iff c6 h
        exact hK61 v_t_at h _ _ _ hP hD hS (lv_sub hl [0] rfl)
      · replace h := gs_ift c6 h
        refine lv_aload_n hx hb dX8_next_48 rfl (lv_at hl 0 rfl) ?_
        refine lv_dup hx hb dX8_next_49 rfl ?_
        refine va_get (D := E.1) (ci := 8) (v := .int v_t_at) (C := RX8) (T := TX8) (N := 9) hx hb hts (fun _ h => (List.mem_cons_of_mem _ (List.mem_append_right _ h))) hown hk.1 hP 0 rfl rfl 2 (by decide) (hts (.fieldLink RX8 15 "GapSongs$Tokens" "at" "I") (List.mem_cons_of_mem _ (List.mem_append_left _ (List.mem_append_left _ (List.mem_of_getElem? (i := 1) rfl))))) (fun _ h9 => h9) rfl dX8_next_50 ?_
        refine lv_iconst (v := 1) hx hb dX8_next_53 (by decide) ?_
        refine lv_iadd hx hb dX8_next_54 ?_
        refine va_put (D := E.1) (ci := 8) (v := .int (v_t_at + 1)) (ty := .int) (C := RX8) (T := TX8) (N := 9) hx hb hts (fun _ h => (List.mem_cons_of_mem _ (List.mem_append_right _ h))) tyX8 tyX8_ok nmX8 hown hk.1 hP hD hS 0 rfl rfl 2 (by decide) (hts (.fieldLink RX8 15 "GapSongs$Tokens" "at" "I") (List.mem_cons_of_mem _ (List.mem_append_left _ (List.mem_append_left _ (List.mem_of_getElem? (i := 1) rfl))))) (fun _ h9 => h9) rfl (by decide +kernel) rfl rfl (Nat.le_of_ble_eq_true rfl) dX8_next_55 (fun H locs hP hD hS => ?_)
        have hP : va_P E.1 vwCl (w_X8_next E a_t a_t_text v_t_length (v_t_at + 1) v_t_kind v_t_start v_t_value v_t_sign v_t_fault v_t_place r_t_text) H := hP
        have hD : va_D A (w_X8_next E a_t a_t_text v_t_length (v_t_at + 1) v_t_kind v_t_start v_t_value v_t_sign v_t_fault v_t_place r_t_text) := hD
        refine lv_goto (tgt := 9) hx hb dX8_next_58 (by decide) ?_
        exact hK9 (v_t_at + 1) h _ _ _ hP hD hS (lv_sub hl [0] rfl)
set_option maxHeartbeats 4000000 in
set_option maxRecDepth 100000 in
theorem t_X8_next_9_n {p : Program} {l : Launch} {e : Env} {s : State} {m : MethodId} {args : Array Value} {below : List Frame} {meth : Method} {c : Code} {Q : State → Prop} {E : gs_E} {A : Nat → Prop} {J : gs_J} {a_t a_t_text : Nat} {o_t_at : Int32} {o_t_kind : Int32} {o_t_start : Int32} {o_t_value : Int32} {o_t_sign : Int32} (X0 : gs_X wsX8_next cX8_next RX8 1 none p s m args meth c) (hk : gs_K E s) (hAm : gs_Amb J s) (hA0 : ∀ q, A q → J.1 ≤ q) {v_t_length : Int32} {v_t_kind : Int32} {v_t_start : Int32} {v_t_value : Int32} {v_t_sign : Int32} {v_t_fault : Int32} {v_t_place : Int32} {r_t_text : Nat → Int32} (hret : ∀ (H : Heap) (locs : List Loc) (pc : Nat) (ls : Array Slot), va_P E.1 vwCl (w_X8_next E a_t a_t_text v_t_length o_t_at o_t_kind o_t_start o_t_value o_t_sign v_t_fault v_t_place r_t_text) H → va_S A s.heap H locs → decode cX8_next pc = .ok (.return_, 1) → W p l e rm_X8_next s m args below meth c H locs 0 0 Q (F0 m pc ls [])) {K61 : Int32 → Option (Int32 × Int32 × Int32 × Int32 × Int32)} (hK61 : ∀ (v_t_at : Int32), K61 v_t_at = some (o_t_at, o_t_kind, o_t_start, o_t_value, o_t_sign) → S_X8_next_61 p l e s m args below meth c Q J a_t a_t_text E A v_t_length v_t_at v_t_kind v_t_start v_t_value v_t_sign v_t_fault v_t_place r_t_text) : ∀ (n : Nat) (v_t_at : Int32), gs_it (fun _ => none) (f_X8_next_9 v_t_length v_t_kind v_t_start v_t_value v_t_sign r_t_text K61) n v_t_at = some (o_t_at, o_t_kind, o_t_start, o_t_value, o_t_sign) → S_X8_next_9 p l e s m args below meth c Q J a_t a_t_text E A v_t_length v_t_at v_t_kind v_t_start v_t_value v_t_sign v_t_fault v_t_place r_t_text := by
  intro n
  induction n with
  | zero =>
    intro v_t_at h
    have h : (none : Option (Int32 × Int32 × Int32 × Int32 × Int32)) = some (o_t_at, o_t_kind, o_t_start, o_t_value, o_t_sign) := h
    cases h
  | succ n ih =>
    intro v_t_at h
    exact t_X8_next_9_b X0 hk hAm hA0 hret (hK61 := hK61) (K9 := gs_it (fun _ => none) (f_X8_next_9 v_t_length v_t_kind v_t_start v_t_value v_t_sign r_t_text K61) n) (hK9 := ih) (h := h)
theorem t_X8_next_9 {p : Program} {l : Launch} {e : Env} {s : State} {m : MethodId} {args : Array Value} {below : List Frame} {meth : Method} {c : Code} {Q : State → Prop} {E : gs_E} {A : Nat → Prop} {J : gs_J} {a_t a_t_text : Nat} {o_t_at : Int32} {o_t_kind : Int32} {o_t_start : Int32} {o_t_value : Int32} {o_t_sign : Int32} (X0 : gs_X wsX8_next cX8_next RX8 1 none p s m args meth c) (hk : gs_K E s) (hAm : gs_Amb J s) (hA0 : ∀ q, A q → J.1 ≤ q) {v_t_length : Int32} {v_t_at : Int32} {v_t_kind : Int32} {v_t_start : Int32} {v_t_value : Int32} {v_t_sign : Int32} {v_t_fault : Int32} {v_t_place : Int32} {r_t_text : Nat → Int32} (hret : ∀ (H : Heap) (locs : List Loc) (pc : Nat) (ls : Array Slot), va_P E.1 vwCl (w_X8_next E a_t a_t_text v_t_length o_t_at o_t_kind o_t_start o_t_value o_t_sign v_t_fault v_t_place r_t_text) H → va_S A s.heap H locs → decode cX8_next pc = .ok (.return_, 1) → W p l e rm_X8_next s m args below meth c H locs 0 0 Q (F0 m pc ls [])) {K61 : Int32 → Option (Int32 × Int32 × Int32 × Int32 × Int32)} (hK61 : ∀ (v_t_at : Int32), K61 v_t_at = some (o_t_at, o_t_kind, o_t_start, o_t_value, o_t_sign) → S_X8_next_61 p l e s m args below meth c Q J a_t a_t_text E A v_t_length v_t_at v_t_kind v_t_start v_t_value v_t_sign v_t_fault v_t_place r_t_text) (h : gs_it (fun _ => none) (f_X8_next_9 v_t_length v_t_kind v_t_start v_t_value v_t_sign r_t_text K61) gs_fuel v_t_at = some (o_t_at, o_t_kind, o_t_start, o_t_value, o_t_sign)) : S_X8_next_9 p l e s m args below meth c Q J a_t a_t_text E A v_t_length v_t_at v_t_kind v_t_start v_t_value v_t_sign v_t_fault v_t_place r_t_text :=
  t_X8_next_9_n X0 hk hAm hA0 hret (hK61 := hK61) gs_fuel v_t_at h
def f_X8_next_61 (v_t_length : Int32) (v_t_at : Int32) (v_t_kind : Int32) (v_t_start : Int32) (v_t_value : Int32) (v_t_sign : Int32) (r_t_text : Nat → Int32) : Option (Int32 × Int32 × Int32 × Int32 × Int32) :=
  if v_t_at < v_t_length then
    gs_gd (gs_in v_t_at 700) <|
    gs_b1 (f_X8_isLetter (r_t_text v_t_at.toNatClampNeg)) fun r9 =>
    if r9 = 0 then
      gs_gd (gs_in v_t_at 700) <|
      gs_b1 (f_X8_isDigit (r_t_text v_t_at.toNatClampNeg)) fun r12 =>
      if r12 = 0 then
        gs_b3 (f_X8_takeSign v_t_at v_t_kind v_t_sign r_t_text) fun o14_0 o14_1 o14_2 =>
        some (o14_0, o14_1, v_t_at, v_t_value, o14_2)
      else
        gs_b3 (f_X8_takeNumber v_t_length v_t_at v_t_kind v_t_at v_t_value r_t_text) fun o15_0 o15_1 o15_2 =>
        some (o15_0, o15_1, v_t_at, o15_2, v_t_sign)
    else
      gs_b2 (f_X8_takeWord v_t_length v_t_at v_t_kind r_t_text) fun o16_0 o16_1 =>
      some (o16_0, o16_1, v_t_at, v_t_value, v_t_sign)
  else
    some (v_t_at, 0, v_t_at, v_t_value, v_t_sign)
set_option maxHeartbeats 4000000 in
set_option maxRecDepth 100000 in
theorem t_X8_next_61 {p : Program} {l : Launch} {e : Env} {s : State} {m : MethodId} {args : Array Value} {below : List Frame} {meth : Method} {c : Code} {Q : State → Prop} {E : gs_E} {A : Nat → Prop} {J : gs_J} {a_t a_t_text : Nat} {o_t_at : Int32} {o_t_kind : Int32} {o_t_start : Int32} {o_t_value : Int32} {o_t_sign : Int32} (X0 : gs_X wsX8_next cX8_next RX8 1 none p s m args meth c) (hk : gs_K E s) (hAm : gs_Amb J s) (hA0 : ∀ q, A q → J.1 ≤ q) {v_t_length : Int32} {v_t_at : Int32} {v_t_kind : Int32} {v_t_start : Int32} {v_t_value : Int32} {v_t_sign : Int32} {v_t_fault : Int32} {v_t_place : Int32} {r_t_text : Nat → Int32} (hret : ∀ (H : Heap) (locs : List Loc) (pc : Nat) (ls : Array Slot), va_P E.1 vwCl (w_X8_next E a_t a_t_text v_t_length o_t_at o_t_kind o_t_start o_t_value o_t_sign v_t_fault v_t_place r_t_text) H → va_S A s.heap H locs → decode cX8_next pc = .ok (.return_, 1) → W p l e rm_X8_next s m args below meth c H locs 0 0 Q (F0 m pc ls [])) (h : f_X8_next_61 v_t_length v_t_at v_t_kind v_t_start v_t_value v_t_sign r_t_text = some (o_t_at, o_t_kind, o_t_start, o_t_value, o_t_sign)) : S_X8_next_61 p l e s m args below meth c Q J a_t a_t_text E A v_t_length v_t_at v_t_kind v_t_start v_t_value v_t_sign v_t_fault v_t_place r_t_text := by
  obtain ⟨hx, hb, hml, hown, hts, hr, hlk⟩ := id X0
  intro H locs ls hP hD hS hl
  unfold f_X8_next_61 at h
  refine lv_aload_n hx hb dX8_next_61 rfl (lv_at hl 0 rfl) ?_
  refine lv_aload_n hx hb dX8_next_62 rfl (lv_at hl 0 rfl) ?_
  refine va_get (D := E.1) (ci := 8) (v := .int v_t_at) (C := RX8) (T := TX8) (N := 9) hx hb hts (fun _ h => (List.mem_cons_of_mem _ (List.mem_append_right _ h))) hown hk.1 hP 0 rfl rfl 2 (by decide) (hts (.fieldLink RX8 15 "GapSongs$Tokens" "at" "I") (List.mem_cons_of_mem _ (List.mem_append_left _ (List.mem_append_left _ (List.mem_of_getElem? (i := 1) rfl))))) (fun _ h9 => h9) rfl dX8_next_63 ?_
  refine va_put (D := E.1) (ci := 8) (v := .int v_t_at) (ty := .int) (C := RX8) (T := TX8) (N := 9) hx hb hts (fun _ h => (List.mem_cons_of_mem _ (List.mem_append_right _ h))) tyX8 tyX8_ok nmX8 hown hk.1 hP hD hS 0 rfl rfl 4 (by decide) (hts (.fieldLink RX8 21 "GapSongs$Tokens" "start" "I") (List.mem_cons_of_mem _ (List.mem_append_left _ (List.mem_append_left _ (List.mem_of_getElem? (i := 4) rfl))))) (fun _ h9 => h9) rfl (by decide +kernel) rfl rfl (Nat.le_of_ble_eq_true rfl) dX8_next_66 (fun H locs hP hD hS => ?_)
  have hP : va_P E.1 vwCl (w_X8_next E a_t a_t_text v_t_length v_t_at v_t_kind v_t_at v_t_value v_t_sign v_t_fault v_t_place r_t_text) H := hP
  have hD : va_D A (w_X8_next E a_t a_t_text v_t_length v_t_at v_t_kind v_t_at v_t_value v_t_sign v_t_fault v_t_place r_t_text) := hD
  refine lv_aload_n hx hb dX8_next_69 rfl (lv_at hl 0 rfl) ?_
  refine va_get (D := E.1) (ci := 8) (v := .int v_t_at) (C := RX8) (T := TX8) (N := 9) hx hb hts (fun _ h => (List.mem_cons_of_mem _ (List.mem_append_right _ h))) hown hk.1 hP 0 rfl rfl 2 (by decide) (hts (.fieldLink RX8 15 "GapSongs$Tokens" "at" "I") (List.mem_cons_of_mem _ (List.mem_append_left _ (List.mem_append_left _ (List.mem_of_getElem? (i := 1) rfl))))) (fun _ h9 => h9) rfl dX8_next_70 ?_
  refine lv_aload_n hx hb dX8_next_73 rfl (lv_at hl 0 rfl) ?_
  refine va_get (D := E.1) (ci := 8) (v := .int v_t_length) (C := RX8) (T := TX8) (N := 9) hx hb hts (fun _ h => (List.mem_cons_of_mem _ (List.mem_append_right _ h))) hown hk.1 hP 0 rfl rfl 1 (by decide) (hts (.fieldLink RX8 9 "GapSongs$Tokens" "length" "I") (List.mem_cons_of_mem _ (List.mem_append_left _ (List.mem_append_left _ (List.mem_of_getElem? (i := 2) rfl))))) (fun _ h9 => h9) rfl dX8_next_74 ?_
  refine lv_icmp_lt (tgt := 88) hx hb dX8_next_77 (by decide) (fun c7 => ?_) (fun c7 => ?_)
  · replace h := gs_ift c7 h
    refine lv_aload_n hx hb dX8_next_88 rfl (lv_at hl 0 rfl) ?_
    refine va_get (D := E.1) (ci := 8) (v := .ref a_t_text) (C := RX8) (T := TX8) (N := 9) hx hb hts (fun _ h => (List.mem_cons_of_mem _ (List.mem_append_right _ h))) hown hk.1 hP 0 rfl rfl 0 (by decide) (hts (.fieldLink RX8 37 "GapSongs$Tokens" "text" "[B") (List.mem_cons_of_mem _ (List.mem_append_left _ (List.mem_append_left _ (List.mem_of_getElem? (i := 3) rfl))))) (fun _ h9 => h9) rfl dX8_next_89 ?_
    refine lv_aload_n hx hb dX8_next_92 rfl (lv_at hl 0 rfl) ?_
    refine va_get (D := E.1) (ci := 8) (v := .int v_t_at) (C := RX8) (T := TX8) (N := 9) hx hb hts (fun _ h => (List.mem_cons_of_mem _ (List.mem_append_right _ h))) hown hk.1 hP 0 rfl rfl 2 (by decide) (hts (.fieldLink RX8 15 "GapSongs$Tokens" "at" "I") (List.mem_cons_of_mem _ (List.mem_append_left _ (List.mem_append_left _ (List.mem_of_getElem? (i := 1) rfl))))) (fun _ h9 => h9) rfl dX8_next_93 ?_
    obtain ⟨g8, h⟩ := gs_gd_e h
    refine va_bald hx hb hk.1 hP 1 1 rfl rfl (gs_in_e g8) dX8_next_96 ?_
    obtain ⟨r9, hz9, h⟩ := gs_b1_e h
    refine gs_backRi (va_runS (As := [.int (r_t_text v_t_at.toNatClampNeg)]) (rest := []) ⟨hx, hb, hml, hown, hts⟩ (c_X8_isLetter l E (r_t_text v_t_at.toNatClampNeg) r9 hz9) (va_cwS 1 hts gX8_next_X8_isLetter rfl rfl rfl (by decide +kernel) ⟨Nat.le_of_ble_eq_true rfl, Nat.le_of_ble_eq_true rfl⟩) (gs_pre hk hP hD (is := []) rfl rfl) rfl rfl hl.1 rfl (lv_room (Nat.le_of_ble_eq_true rfl)) dX8_next_97 ⟨Nat.zero_le _, Nat.zero_le _⟩) ?_
    refine lv_if_eq (tgt := 110) hx hb dX8_next_100 (by decide) (fun c10 => ?_) (fun c10 => ?_)
    · replace h := gs_ift c10 h
      refine lv_aload_n hx hb dX8_next_110 rfl (lv_at hl 0 rfl) ?_
      refine va_get (D := E.1) (ci := 8) (v := .ref a_t_text) (C := RX8) (T := TX8) (N := 9) hx hb hts (fun _ h => (List.mem_cons_of_mem _ (List.mem_append_right _ h))) hown hk.1 hP 0 rfl rfl 0 (by decide) (hts (.fieldLink RX8 37 "GapSongs$Tokens" "text" "[B") (List.mem_cons_of_mem _ (List.mem_append_left _ (List.mem_append_left _ (List.mem_of_getElem? (i := 3) rfl))))) (fun _ h9 => h9) rfl dX8_next_111 ?_
      refine lv_aload_n hx hb dX8_next_114 rfl (lv_at hl 0 rfl) ?_
      refine va_get (D := E.1) (ci := 8) (v := .int v_t_at) (C := RX8) (T := TX8) (N := 9) hx hb hts (fun _ h => (List.mem_cons_of_mem _ (List.mem_append_right _ h))) hown hk.1 hP 0 rfl rfl 2 (by decide) (hts (.fieldLink RX8 15 "GapSongs$Tokens" "at" "I") (List.mem_cons_of_mem _ (List.mem_append_left _ (List.mem_append_left _ (List.mem_of_getElem? (i := 1) rfl))))) (fun _ h9 => h9) rfl dX8_next_115 ?_
      obtain ⟨g11, h⟩ := gs_gd_e h
      refine va_bald hx hb hk.1 hP 1 1 rfl rfl (gs_in_e g11) dX8_next_118 ?_
      obtain ⟨r12, hz12, h⟩ := gs_b1_e h
      refine gs_backRi (va_runS (As := [.int (r_t_text v_t_at.toNatClampNeg)]) (rest := []) ⟨hx, hb, hml, hown, hts⟩ (c_X8_isDigit l E (r_t_text v_t_at.toNatClampNeg) r12 hz12) (va_cwS 1 hts gX8_next_X8_isDigit rfl rfl rfl (by decide +kernel) ⟨Nat.le_of_ble_eq_true rfl, Nat.le_of_ble_eq_true rfl⟩) (gs_pre hk hP hD (is := []) rfl rfl) rfl rfl hl.1 rfl (lv_room (Nat.le_of_ble_eq_true rfl)) dX8_next_119 ⟨Nat.zero_le _, Nat.zero_le _⟩) ?_
      refine lv_if_eq (tgt := 132) hx hb dX8_next_122 (by decide) (fun c13 => ?_) (fun c13 => ?_)
      · replace h := gs_ift c13 h
        refine lv_aload_n hx hb dX8_next_132 rfl (lv_at hl 0 rfl) ?_
        obtain ⟨o14_0, o14_1, o14_2, hz14, h⟩ := gs_b3_e h
        refine gs_backWv (ws1 := (w_X8_next E a_t a_t_text v_t_length o14_0 o14_1 v_t_at v_t_value o14_2 v_t_fault v_t_place r_t_text)) (va_runV (As := []) (rest := []) ⟨hx, hb, hml, hown, hts⟩ (c_X8_takeSign l E J a_t a_t_text v_t_length v_t_at v_t_kind v_t_at v_t_value v_t_sign v_t_fault v_t_place r_t_text o14_0 o14_1 o14_2 hz14) (cwV 0 hts gX8_next_X8_takeSign rfl rfl rfl (by decide +kernel) ⟨Nat.le_of_ble_eq_true rfl, Nat.le_of_ble_eq_true rfl⟩) (gs_preVS (ci := 8) hk hAm hP hD hA0 hS (is := [0, 1]) rfl rfl rfl rfl) rfl rfl hl.1 rfl (lv_room (Nat.le_of_ble_eq_true rfl)) dX8_next_133 ⟨Nat.zero_le _, Nat.zero_le _⟩) hP hD hS [0, 1] rfl rfl rfl rfl (fun H locs hP hD hS => ?_)
        have h := Option.some.inj h
        obtain ⟨w0, h⟩ := Prod.mk.inj h
        obtain ⟨w1, h⟩ := Prod.mk.inj h
        obtain ⟨w2, h⟩ := Prod.mk.inj h
        obtain ⟨w3, h⟩ := Prod.mk.inj h
        subst h
        subst w0
        subst w1
        subst w2
        subst w3
        exact hret _ _ _ _ hP hS dX8_next_136
      · replace h := gs_iff c13 h
        refine lv_aload_n hx hb dX8_next_125 rfl (lv_at hl 0 rfl) ?_
        obtain ⟨o15_0, o15_1, o15_2, hz15, h⟩ := gs_b3_e h
        refine gs_backWv (ws1 := (w_X8_next E a_t a_t_text v_t_length o15_0 o15_1 v_t_at o15_2 v_t_sign v_t_fault v_t_place r_t_text)) (va_runV (As := []) (rest := []) ⟨hx, hb, hml, hown, hts⟩ (c_X8_takeNumber l E a_t a_t_text v_t_length v_t_at v_t_kind v_t_at v_t_value v_t_sign v_t_fault v_t_place r_t_text o15_0 o15_1 o15_2 hz15) (cwV 0 hts gX8_next_X8_takeNumber rfl rfl rfl (by decide +kernel) ⟨Nat.le_of_ble_eq_true rfl, Nat.le_of_ble_eq_true rfl⟩) (gs_preV (ci := 8) hk hP hD (is := [0, 1]) rfl rfl rfl rfl) rfl rfl hl.1 rfl (lv_room (Nat.le_of_ble_eq_true rfl)) dX8_next_126 ⟨Nat.zero_le _, Nat.zero_le _⟩) hP hD hS [0, 1] rfl rfl rfl rfl (fun H locs hP hD hS => ?_)
        refine lv_goto (tgt := 136) hx hb dX8_next_129 (by decide) ?_
        have h := Option.some.inj h
        obtain ⟨w0, h⟩ := Prod.mk.inj h
        obtain ⟨w1, h⟩ := Prod.mk.inj h
        obtain ⟨w2, h⟩ := Prod.mk.inj h
        obtain ⟨w3, h⟩ := Prod.mk.inj h
        subst h
        subst w0
        subst w1
        subst w2
        subst w3
        exact hret _ _ _ _ hP hS dX8_next_136
    · replace h := gs_iff c10 h
      refine lv_aload_n hx hb dX8_next_103 rfl (lv_at hl 0 rfl) ?_
      obtain ⟨o16_0, o16_1, hz16, h⟩ := gs_b2_e h
      refine gs_backWv (ws1 := (w_X8_next E a_t a_t_text v_t_length o16_0 o16_1 v_t_at v_t_value v_t_sign v_t_fault v_t_place r_t_text)) (va_runV (As := []) (rest := []) ⟨hx, hb, hml, hown, hts⟩ (c_X8_takeWord l E a_t a_t_text v_t_length v_t_at v_t_kind v_t_at v_t_value v_t_sign v_t_fault v_t_place r_t_text o16_0 o16_1 hz16) (cwV 0 hts gX8_next_X8_takeWord rfl rfl rfl (by decide +kernel) ⟨Nat.le_of_ble_eq_true rfl, Nat.le_of_ble_eq_true rfl⟩) (gs_preV (ci := 8) hk hP hD (is := [0, 1]) rfl rfl rfl rfl) rfl rfl hl.1 rfl (lv_room (Nat.le_of_ble_eq_true rfl)) dX8_next_104 ⟨Nat.zero_le _, Nat.zero_le _⟩) hP hD hS [0, 1] rfl rfl rfl rfl (fun H locs hP hD hS => ?_)
      refine lv_goto (tgt := 136) hx hb dX8_next_107 (by decide) ?_
      have h := Option.some.inj h
      obtain ⟨w0, h⟩ := Prod.mk.inj h
      obtain ⟨w1, h⟩ := Prod.mk.inj h
      obtain ⟨w2, h⟩ := Prod.mk.inj h
      obtain ⟨w3, h⟩ := Prod.mk.inj h
      subst h
      subst w0
      subst w1
      subst w2
      subst w3
      exact hret _ _ _ _ hP hS dX8_next_136
  · replace h := gs_iff c7 h
    refine lv_aload_n hx hb dX8_next_80 rfl (lv_at hl 0 rfl) ?_
    refine lv_iconst (v := 0) hx hb dX8_next_81 (by decide) ?_
    refine va_put (D := E.1) (ci := 8) (v := .int 0) (ty := .int) (C := RX8) (T := TX8) (N := 9) hx hb hts (fun _ h => (List.mem_cons_of_mem _ (List.mem_append_right _ h))) tyX8 tyX8_ok nmX8 hown hk.1 hP hD hS 0 rfl rfl 3 (by decide) (hts (.fieldLink RX8 18 "GapSongs$Tokens" "kind" "I") (List.mem_cons_of_mem _ (List.mem_append_left _ (List.mem_append_left _ (List.mem_of_getElem? (i := 0) rfl))))) (fun _ h9 => h9) rfl (by decide +kernel) rfl rfl (Nat.le_of_ble_eq_true rfl) dX8_next_82 (fun H locs hP hD hS => ?_)
    have hP : va_P E.1 vwCl (w_X8_next E a_t a_t_text v_t_length v_t_at 0 v_t_at v_t_value v_t_sign v_t_fault v_t_place r_t_text) H := hP
    have hD : va_D A (w_X8_next E a_t a_t_text v_t_length v_t_at 0 v_t_at v_t_value v_t_sign v_t_fault v_t_place r_t_text) := hD
    refine lv_goto (tgt := 136) hx hb dX8_next_85 (by decide) ?_
    have h := Option.some.inj h
    obtain ⟨w0, h⟩ := Prod.mk.inj h
    obtain ⟨w1, h⟩ := Prod.mk.inj h
    obtain ⟨w2, h⟩ := Prod.mk.inj h
    obtain ⟨w3, h⟩ := Prod.mk.inj h
    subst h
    subst w0
    subst w1
    subst w2
    subst w3
    exact hret _ _ _ _ hP hS dX8_next_136
def f_X8_next (v_t_length : Int32) (v_t_at : Int32) (v_t_kind : Int32) (v_t_start : Int32) (v_t_value : Int32) (v_t_sign : Int32) (r_t_text : Nat → Int32) : Option (Int32 × Int32 × Int32 × Int32 × Int32) :=
  if v_t_kind = 5 then
    some (v_t_at, v_t_kind, v_t_start, v_t_value, v_t_sign)
  else
    gs_it (fun _ => none) (f_X8_next_9 v_t_length v_t_kind v_t_start v_t_value v_t_sign r_t_text (fun (v_t_at' : Int32) => f_X8_next_61 v_t_length v_t_at' v_t_kind v_t_start v_t_value v_t_sign r_t_text)) gs_fuel v_t_at
set_option maxHeartbeats 4000000 in
set_option maxRecDepth 100000 in
theorem c_X8_next (l : Launch) (E : gs_E) (J : gs_J) (a_t a_t_text : Nat) (v_t_length : Int32) (v_t_at : Int32) (v_t_kind : Int32) (v_t_start : Int32) (v_t_value : Int32) (v_t_sign : Int32) (v_t_fault : Int32) (v_t_place : Int32) (r_t_text : Nat → Int32) (o_t_at : Int32) (o_t_kind : Int32) (o_t_start : Int32) (o_t_value : Int32) (o_t_sign : Int32) (h : f_X8_next v_t_length v_t_at v_t_kind v_t_start v_t_value v_t_sign r_t_text = some (o_t_at, o_t_kind, o_t_start, o_t_value, o_t_sign)) : gs_MWS l yX8_next wsX8_next rm_X8_next [.ref a_t] E J (w_X8_next E a_t a_t_text v_t_length v_t_at v_t_kind v_t_start v_t_value v_t_sign v_t_fault v_t_place r_t_text) (w_X8_next E a_t a_t_text v_t_length o_t_at o_t_kind o_t_start o_t_value o_t_sign v_t_fault v_t_place r_t_text) none := by
  refine Met.ofW (cc := cX8_next) (maxL := 1) (ret := none) (by decide) rfl ?_
  intro p e s m args below meth c s₁ B hml hv
  obtain ⟨rfl, hP, hk, hD0, hAm⟩ := hv
  have X0 : gs_X wsX8_next cX8_next RX8 1 none p s m ([.ref a_t] : List Value).toArray meth c := gs_X.of B hml
  obtain ⟨hx, hb, -, hown, hts, hr, hlk⟩ := id X0
  have hD := (gs_D_self hD0)
  have hA0 : ∀ q, gs_w (w_X8_next E a_t a_t_text v_t_length v_t_at v_t_kind v_t_start v_t_value v_t_sign v_t_fault v_t_place r_t_text) q → J.1 ≤ q := gs_w_le hD0
  generalize hAe : gs_w (w_X8_next E a_t a_t_text v_t_length v_t_at v_t_kind v_t_start v_t_value v_t_sign v_t_fault v_t_place r_t_text) = A at hD hA0 ⊢
  have hS : va_S A s.heap s.heap [] := va_S.rf
  have hret : ∀ (H : Heap) (locs : List Loc) (pc : Nat) (ls : Array Slot), va_P E.1 vwCl (w_X8_next E a_t a_t_text v_t_length o_t_at o_t_kind o_t_start o_t_value o_t_sign v_t_fault v_t_place r_t_text) H → va_S A s.heap H locs → decode cX8_next pc = .ok (.return_, 1) → W p l e rm_X8_next s m ([.ref a_t] : List Value).toArray below meth c H locs 0 0 (MQ below (gs_QWA E A (w_X8_next E a_t a_t_text v_t_length o_t_at o_t_kind o_t_start o_t_value o_t_sign v_t_fault v_t_place r_t_text) none) ([.ref a_t] : List Value).toArray s 0 0 A) (F0 m pc ls []) := fun H locs pc ls hP hS hd => W.vret hx hb hr (fun t ht hW => ⟨rfl, by rw [ht]; exact hP, hS.F ht⟩) hS.2.2 hd
  have hl := lv_entry ([.ref a_t]) (n := 1) (Nat.le_of_ble_eq_true rfl)
  rw [lg_entry_eq]
  generalize (lg_sl ([.ref a_t]) ++ List.replicate (1 - (lg_sl ([.ref a_t])).length) Slot.unset).toArray = ls at hl ⊢
  have hl : lv_has ls 1 [(0, .ref a_t)] := hl
  unfold f_X8_next at h
  refine lv_aload_n hx hb dX8_next_0 rfl (lv_at hl 0 rfl) ?_
  refine va_get (D := E.1) (ci := 8) (v := .int v_t_kind) (C := RX8) (T := TX8) (N := 9) hx hb hts (fun _ h => (List.mem_cons_of_mem _ (List.mem_append_right _ h))) hown hk.1 hP 0 rfl rfl 3 (by decide) (hts (.fieldLink RX8 18 "GapSongs$Tokens" "kind" "I") (List.mem_cons_of_mem _ (List.mem_append_left _ (List.mem_append_left _ (List.mem_of_getElem? (i := 0) rfl))))) (fun _ h9 => h9) rfl dX8_next_1 ?_
  refine lv_iconst (v := 5) hx hb dX8_next_4 (by decide) ?_
  refine lv_icmp_ne (tgt := 9) hx hb dX8_next_5 (by decide) (fun c1 => ?_) (fun c1 => ?_)
  · replace h := gs_iff c1 h
    exact t_X8_next_9 X0 hk hAm hA0 hret (K61 := (fun (v_t_at' : Int32) => f_X8_next_61 v_t_length v_t_at' v_t_kind v_t_start v_t_value v_t_sign r_t_text)) (hK61 := (fun v_t_at' hq => t_X8_next_61 X0 hk hAm hA0 hret  (h := hq))) (h := h) _ _ _ hP hD hS (lv_sub hl [0] rfl)
  · replace h := gs_ift c1 h
    have h := Option.some.inj h
    obtain ⟨w0, h⟩ := Prod.mk.inj h
    obtain ⟨w1, h⟩ := Prod.mk.inj h
    obtain ⟨w2, h⟩ := Prod.mk.inj h
    obtain ⟨w3, h⟩ := Prod.mk.inj h
    subst h
    subst w0
    subst w1
    subst w2
    subst w3
    exact hret _ _ _ _ hP hS dX8_next_8

abbrev w_X8_begin (E : gs_E) (a_t a_t_text : Nat) (v_t_length : Int32) (v_t_at : Int32) (v_t_kind : Int32) (v_t_start : Int32) (v_t_value : Int32) (v_t_sign : Int32) (v_t_fault : Int32) (v_t_place : Int32) (r_t_text : Nat → Int32) : va_W := [(a_t, .inr (8, [.ref a_t_text, .int v_t_length, .int v_t_at, .int v_t_kind, .int v_t_start, .int v_t_value, .int v_t_sign, .int v_t_fault, .int v_t_place])), (a_t_text, .inl (E.2.2.1, 700, .inl r_t_text))]
abbrev rm_X8_begin : Room := { frames := 6, cells := 0, slots := 0, locals := 146 }
def f_X8_begin (x1 : Int32) (v_t_length : Int32) (v_t_at : Int32) (v_t_kind : Int32) (v_t_start : Int32) (v_t_value : Int32) (v_t_sign : Int32) (v_t_fault : Int32) (v_t_place : Int32) (r_t_text : Nat → Int32) : Option (Int32 × Int32 × Int32 × Int32 × Int32 × Int32 × Int32 × Int32) :=
  gs_b5 (f_X8_next (if 700 < x1 then 700 else x1) 0 0 v_t_start v_t_value v_t_sign r_t_text) fun o1_0 o1_1 o1_2 o1_3 o1_4 =>
  some (if 700 < x1 then 700 else x1, o1_0, o1_1, o1_2, o1_3, o1_4, 0, (-1))
set_option maxHeartbeats 4000000 in
set_option maxRecDepth 100000 in
theorem c_X8_begin (l : Launch) (E : gs_E) (J : gs_J) (a_t a_t_text : Nat) (v_t_length : Int32) (v_t_at : Int32) (v_t_kind : Int32) (v_t_start : Int32) (v_t_value : Int32) (v_t_sign : Int32) (v_t_fault : Int32) (v_t_place : Int32) (r_t_text : Nat → Int32) (x1 : Int32) (o_t_length : Int32) (o_t_at : Int32) (o_t_kind : Int32) (o_t_start : Int32) (o_t_value : Int32) (o_t_sign : Int32) (o_t_fault : Int32) (o_t_place : Int32) (h : f_X8_begin x1 v_t_length v_t_at v_t_kind v_t_start v_t_value v_t_sign v_t_fault v_t_place r_t_text = some (o_t_length, o_t_at, o_t_kind, o_t_start, o_t_value, o_t_sign, o_t_fault, o_t_place)) : gs_MWS l yX8_begin wsX8_begin rm_X8_begin [.ref a_t, .int x1] E J (w_X8_begin E a_t a_t_text v_t_length v_t_at v_t_kind v_t_start v_t_value v_t_sign v_t_fault v_t_place r_t_text) (w_X8_begin E a_t a_t_text o_t_length o_t_at o_t_kind o_t_start o_t_value o_t_sign o_t_fault o_t_place r_t_text) none := by
  refine Met.ofW (cc := cX8_begin) (maxL := 2) (ret := none) (by decide) rfl ?_
  intro p e s m args below meth c s₁ B hml hv
  obtain ⟨rfl, hP, hk, hD0, hAm⟩ := hv
  have X0 : gs_X wsX8_begin cX8_begin RX8 2 none p s m ([.ref a_t, .int x1] : List Value).toArray meth c := gs_X.of B hml
  obtain ⟨hx, hb, -, hown, hts, hr, hlk⟩ := id X0
  have hD := (gs_D_self hD0)
  have hA0 : ∀ q, gs_w (w_X8_begin E a_t a_t_text v_t_length v_t_at v_t_kind v_t_start v_t_value v_t_sign v_t_fault v_t_place r_t_text) q → J.1 ≤ q := gs_w_le hD0
  generalize hAe : gs_w (w_X8_begin E a_t a_t_text v_t_length v_t_at v_t_kind v_t_start v_t_value v_t_sign v_t_fault v_t_place r_t_text) = A at hD hA0 ⊢
  have hS : va_S A s.heap s.heap [] := va_S.rf
  have hret : ∀ (H : Heap) (locs : List Loc) (pc : Nat) (ls : Array Slot), va_P E.1 vwCl (w_X8_begin E a_t a_t_text o_t_length o_t_at o_t_kind o_t_start o_t_value o_t_sign o_t_fault o_t_place r_t_text) H → va_S A s.heap H locs → decode cX8_begin pc = .ok (.return_, 1) → W p l e rm_X8_begin s m ([.ref a_t, .int x1] : List Value).toArray below meth c H locs 0 0 (MQ below (gs_QWA E A (w_X8_begin E a_t a_t_text o_t_length o_t_at o_t_kind o_t_start o_t_value o_t_sign o_t_fault o_t_place r_t_text) none) ([.ref a_t, .int x1] : List Value).toArray s 0 0 A) (F0 m pc ls []) := fun H locs pc ls hP hS hd => W.vret hx hb hr (fun t ht hW => ⟨rfl, by rw [ht]; exact hP, hS.F ht⟩) hS.2.2 hd
  have hl := lv_entry ([.ref a_t, .int x1]) (n := 2) (Nat.le_of_ble_eq_true rfl)
  rw [lg_entry_eq]
  generalize (lg_sl ([.ref a_t, .int x1]) ++ List.replicate (2 - (lg_sl ([.ref a_t, .int x1])).length) Slot.unset).toArray = ls at hl ⊢
  have hl : lv_has ls 2 [(0, .ref a_t), (1, .int x1)] := hl
  unfold f_X8_begin at h
  refine lv_aload_n hx hb dX8_begin_0 rfl (lv_at hl 0 rfl) ?_
  refine lv_iload_n hx hb dX8_begin_1 rfl (lv_at hl 1 rfl) ?_
  refine lv_aload_n hx hb dX8_begin_2 rfl (lv_at hl 0 rfl) ?_
  refine va_get (D := E.1) (ci := 8) (v := .ref a_t_text) (C := RX8) (T := TX8) (N := 9) hx hb hts (fun _ h => (List.mem_cons_of_mem _ (List.mem_append_right _ h))) hown hk.1 hP 0 rfl rfl 0 (by decide) (hts (.fieldLink RX8 37 "GapSongs$Tokens" "text" "[B") (List.mem_cons_of_mem _ (List.mem_append_left _ (List.mem_append_left _ (List.mem_of_getElem? (i := 0) rfl))))) (fun _ h9 => h9) rfl dX8_begin_3 ?_
  refine va_alen (v := 700) hx hb hk.1 hP 1 1 rfl rfl rfl dX8_begin_6 ?_
  refine va_mmin hx hb (by rw [hml]; exact hl.1.symm) hown (hts (.methodLink RX8 41 Lib.Math.min.name) (List.mem_cons_of_mem _ (List.mem_append_left _ (List.mem_append_left _ (List.mem_of_getElem? (i := 1) rfl))))) (hts (.static Lib.Math.min.name) (List.mem_cons_of_mem _ (List.mem_append_left _ (List.mem_append_left _ (List.mem_of_getElem? (i := 2) rfl))))) (hts (.initialized "java/lang/Math") (List.mem_cons_of_mem _ (List.mem_append_left _ (List.mem_append_left _ (List.mem_of_getElem? (i := 3) rfl))))) (hts (.code Lib.Math.min.name Lib.Math.min.code 2 (some .int)) (List.mem_cons_of_mem _ (List.mem_append_left _ (List.mem_append_left _ (List.mem_of_getElem? (i := 4) rfl))))) (Nat.le_of_ble_eq_true rfl) (Nat.le_of_ble_eq_true rfl) (Nat.zero_le _) (Nat.zero_le _) dX8_begin_7 ?_
  refine va_put (D := E.1) (ci := 8) (v := .int (if 700 < x1 then 700 else x1)) (ty := .int) (C := RX8) (T := TX8) (N := 9) hx hb hts (fun _ h => (List.mem_cons_of_mem _ (List.mem_append_right _ h))) tyX8 tyX8_ok nmX8 hown hk.1 hP hD hS 0 rfl rfl 1 (by decide) (hts (.fieldLink RX8 9 "GapSongs$Tokens" "length" "I") (List.mem_cons_of_mem _ (List.mem_append_left _ (List.mem_append_left _ (List.mem_of_getElem? (i := 5) rfl))))) (fun _ h9 => h9) rfl (by decide +kernel) rfl rfl (Nat.le_of_ble_eq_true rfl) dX8_begin_10 (fun H locs hP hD hS => ?_)
  have hP : va_P E.1 vwCl (w_X8_begin E a_t a_t_text (if 700 < x1 then 700 else x1) v_t_at v_t_kind v_t_start v_t_value v_t_sign v_t_fault v_t_place r_t_text) H := hP
  have hD : va_D A (w_X8_begin E a_t a_t_text (if 700 < x1 then 700 else x1) v_t_at v_t_kind v_t_start v_t_value v_t_sign v_t_fault v_t_place r_t_text) := hD
  refine lv_aload_n hx hb dX8_begin_13 rfl (lv_at hl 0 rfl) ?_
  refine lv_iconst (v := 0) hx hb dX8_begin_14 (by decide) ?_
  refine va_put (D := E.1) (ci := 8) (v := .int 0) (ty := .int) (C := RX8) (T := TX8) (N := 9) hx hb hts (fun _ h => (List.mem_cons_of_mem _ (List.mem_append_right _ h))) tyX8 tyX8_ok nmX8 hown hk.1 hP hD hS 0 rfl rfl 2 (by decide) (hts (.fieldLink RX8 15 "GapSongs$Tokens" "at" "I") (List.mem_cons_of_mem _ (List.mem_append_left _ (List.mem_append_left _ (List.mem_of_getElem? (i := 6) rfl))))) (fun _ h9 => h9) rfl (by decide +kernel) rfl rfl (Nat.le_of_ble_eq_true rfl) dX8_begin_15 (fun H locs hP hD hS => ?_)
  have hP : va_P E.1 vwCl (w_X8_begin E a_t a_t_text (if 700 < x1 then 700 else x1) 0 v_t_kind v_t_start v_t_value v_t_sign v_t_fault v_t_place r_t_text) H := hP
  have hD : va_D A (w_X8_begin E a_t a_t_text (if 700 < x1 then 700 else x1) 0 v_t_kind v_t_start v_t_value v_t_sign v_t_fault v_t_place r_t_text) := hD
  refine lv_aload_n hx hb dX8_begin_18 rfl (lv_at hl 0 rfl) ?_
  refine lv_iconst (v := 0) hx hb dX8_begin_19 (by decide) ?_
  refine va_put (D := E.1) (ci := 8) (v := .int 0) (ty := .int) (C := RX8) (T := TX8) (N := 9) hx hb hts (fun _ h => (List.mem_cons_of_mem _ (List.mem_append_right _ h))) tyX8 tyX8_ok nmX8 hown hk.1 hP hD hS 0 rfl rfl 3 (by decide) (hts (.fieldLink RX8 18 "GapSongs$Tokens" "kind" "I") (List.mem_cons_of_mem _ (List.mem_append_left _ (List.mem_append_left _ (List.mem_of_getElem? (i := 7) rfl))))) (fun _ h9 => h9) rfl (by decide +kernel) rfl rfl (Nat.le_of_ble_eq_true rfl) dX8_begin_20 (fun H locs hP hD hS => ?_)
  have hP : va_P E.1 vwCl (w_X8_begin E a_t a_t_text (if 700 < x1 then 700 else x1) 0 0 v_t_start v_t_value v_t_sign v_t_fault v_t_place r_t_text) H := hP
  have hD : va_D A (w_X8_begin E a_t a_t_text (if 700 < x1 then 700 else x1) 0 0 v_t_start v_t_value v_t_sign v_t_fault v_t_place r_t_text) := hD
  refine lv_aload_n hx hb dX8_begin_23 rfl (lv_at hl 0 rfl) ?_
  refine lv_iconst (v := 0) hx hb dX8_begin_24 (by decide) ?_
  refine va_put (D := E.1) (ci := 8) (v := .int 0) (ty := .int) (C := RX8) (T := TX8) (N := 9) hx hb hts (fun _ h => (List.mem_cons_of_mem _ (List.mem_append_right _ h))) tyX8 tyX8_ok nmX8 hown hk.1 hP hD hS 0 rfl rfl 7 (by decide) (hts (.fieldLink RX8 31 "GapSongs$Tokens" "fault" "I") (List.mem_cons_of_mem _ (List.mem_append_left _ (List.mem_append_left _ (List.mem_of_getElem? (i := 8) rfl))))) (fun _ h9 => h9) rfl (by decide +kernel) rfl rfl (Nat.le_of_ble_eq_true rfl) dX8_begin_25 (fun H locs hP hD hS => ?_)
  have hP : va_P E.1 vwCl (w_X8_begin E a_t a_t_text (if 700 < x1 then 700 else x1) 0 0 v_t_start v_t_value v_t_sign 0 v_t_place r_t_text) H := hP
  have hD : va_D A (w_X8_begin E a_t a_t_text (if 700 < x1 then 700 else x1) 0 0 v_t_start v_t_value v_t_sign 0 v_t_place r_t_text) := hD
  refine lv_aload_n hx hb dX8_begin_28 rfl (lv_at hl 0 rfl) ?_
  refine lv_iconst (v := (-1)) hx hb dX8_begin_29 (by decide) ?_
  refine va_put (D := E.1) (ci := 8) (v := .int (-1)) (ty := .int) (C := RX8) (T := TX8) (N := 9) hx hb hts (fun _ h => (List.mem_cons_of_mem _ (List.mem_append_right _ h))) tyX8 tyX8_ok nmX8 hown hk.1 hP hD hS 0 rfl rfl 8 (by decide) (hts (.fieldLink RX8 34 "GapSongs$Tokens" "place" "I") (List.mem_cons_of_mem _ (List.mem_append_left _ (List.mem_append_left _ (List.mem_of_getElem? (i := 9) rfl))))) (fun _ h9 => h9) rfl (by decide +kernel) rfl rfl (Nat.le_of_ble_eq_true rfl) dX8_begin_30 (fun H locs hP hD hS => ?_)
  have hP : va_P E.1 vwCl (w_X8_begin E a_t a_t_text (if 700 < x1 then 700 else x1) 0 0 v_t_start v_t_value v_t_sign 0 (-1) r_t_text) H := hP
  have hD : va_D A (w_X8_begin E a_t a_t_text (if 700 < x1 then 700 else x1) 0 0 v_t_start v_t_value v_t_sign 0 (-1) r_t_text) := hD
  refine lv_aload_n hx hb dX8_begin_33 rfl (lv_at hl 0 rfl) ?_
  obtain ⟨o1_0, o1_1, o1_2, o1_3, o1_4, hz1, h⟩ := gs_b5_e h
  refine gs_backWv (ws1 := (w_X8_begin E a_t a_t_text (if 700 < x1 then 700 else x1) o1_0 o1_1 o1_2 o1_3 o1_4 0 (-1) r_t_text)) (va_runV (As := []) (rest := []) ⟨hx, hb, hml, hown, hts⟩ (c_X8_next l E J a_t a_t_text (if 700 < x1 then 700 else x1) 0 0 v_t_start v_t_value v_t_sign 0 (-1) r_t_text o1_0 o1_1 o1_2 o1_3 o1_4 hz1) (cwV 0 hts gX8_begin_X8_next rfl rfl rfl (by decide +kernel) ⟨Nat.le_of_ble_eq_true rfl, Nat.le_of_ble_eq_true rfl⟩) (gs_preVS (ci := 8) hk hAm hP hD hA0 hS (is := [0, 1]) rfl rfl rfl rfl) rfl rfl hl.1 rfl (lv_room (Nat.le_of_ble_eq_true rfl)) dX8_begin_34 ⟨Nat.zero_le _, Nat.zero_le _⟩) hP hD hS [0, 1] rfl rfl rfl rfl (fun H locs hP hD hS => ?_)
  have h := Option.some.inj h
  obtain ⟨w0, h⟩ := Prod.mk.inj h
  obtain ⟨w1, h⟩ := Prod.mk.inj h
  obtain ⟨w2, h⟩ := Prod.mk.inj h
  obtain ⟨w3, h⟩ := Prod.mk.inj h
  obtain ⟨w4, h⟩ := Prod.mk.inj h
  obtain ⟨w5, h⟩ := Prod.mk.inj h
  obtain ⟨w6, h⟩ := Prod.mk.inj h
  subst h
  subst w0
  subst w1
  subst w2
  subst w3
  subst w4
  subst w5
  subst w6
  exact hret _ _ _ _ hP hS dX8_begin_37
