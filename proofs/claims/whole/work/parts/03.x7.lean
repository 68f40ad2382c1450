abbrev w_X7_notes (E : gs_E) (a_t a_t_row : Nat) (r_t_row : Nat → Int32) : va_W := [(a_t, .inr (7, [.ref a_t_row])), (a_t_row, .inl (E.2.1, 78, .inl r_t_row))]
abbrev rm_X7_notes : Room := { frames := 0, cells := 0, slots := 0, locals := 0 }
def f_X7_notes (x1 : Int32) (x2 : Int32) (r_t_row : Nat → Int32) : Option (Int32) :=
  gs_gd (gs_in ((8 + (x1 * 5)) + x2) 78) <|
  some (r_t_row ((8 + (x1 * 5)) + x2).toNatClampNeg)
set_option maxHeartbeats 4000000 in
set_option maxRecDepth 100000 in
theorem c_X7_notes (l : Launch) (E : gs_E) (a_t a_t_row : Nat) (r_t_row : Nat → Int32) (x1 : Int32) (x2 : Int32) (rr : Int32) (h : f_X7_notes x1 x2 r_t_row = some rr) : gs_MR l yX7_notes wsX7_notes rm_X7_notes [.ref a_t, .int x1, .int x2] E (w_X7_notes E a_t a_t_row r_t_row) (some (.int rr)) := by
  refine Met.ofW (cc := cX7_notes) (maxL := 3) (ret := (some .int)) (by decide) rfl ?_
  intro p e s m args below meth c s₁ B hml hv
  obtain ⟨rfl, hP, hk, hD0⟩ := hv
  have X0 : gs_X wsX7_notes cX7_notes RX7 3 (some .int) p s m ([.ref a_t, .int x1, .int x2] : List Value).toArray meth c := gs_X.of B hml
  obtain ⟨hx, hb, -, hown, hts, hr, hlk⟩ := id X0
  have hD := hD0
  have hret : ∀ (pc : Nat) (ls : Array Slot), decode cX7_notes pc = .ok (.ireturn, 1) → W p l e rm_X7_notes s m ([.ref a_t, .int x1, .int x2] : List Value).toArray below meth c s.heap [] 0 0 (MQ below (gs_QR (some (.int rr))) ([.ref a_t, .int x1, .int x2] : List Value).toArray s 0 0 (fun _ => False)) (F0 m pc ls [.int rr]) := fun pc ls hd => W.iret hx hb hr (fun t ht hW => ⟨rfl, ht⟩) (fun q hq => by cases hq) hd
  have hl := lv_entry ([.ref a_t, .int x1, .int x2]) (n := 3) (Nat.le_of_ble_eq_true rfl)
  rw [lg_entry_eq]
  generalize (lg_sl ([.ref a_t, .int x1, .int x2]) ++ List.replicate (3 - (lg_sl ([.ref a_t, .int x1, .int x2])).length) Slot.unset).toArray = ls at hl ⊢
  have hl : lv_has ls 3 [(0, .ref a_t), (1, .int x1), (2, .int x2)] := hl
  unfold f_X7_notes at h
  refine lv_aload_n hx hb dX7_notes_0 rfl (lv_at hl 0 rfl) ?_
  refine va_get (D := E.1) (ci := 7) (v := .ref a_t_row) (C := RX7) (T := TX7) (N := 1) hx hb hts (fun _ h => (List.mem_cons_of_mem _ (List.mem_append_right _ h))) hown hk.1 hP 0 rfl rfl 0 (by decide) (hts (.fieldLink RX7 11 "GapSongs$State" "row" "[I") (List.mem_cons_of_mem _ (List.mem_append_left _ (List.mem_of_getElem? (i := 0) rfl)))) (fun _ h9 => h9) rfl dX7_notes_1 ?_
  refine lv_bipush (v := 8) hx hb dX7_notes_4 (by decide) ?_
  refine lv_iload_n hx hb dX7_notes_6 rfl (lv_at hl 1 rfl) ?_
  refine lv_iconst (v := 5) hx hb dX7_notes_7 (by decide) ?_
  refine lv_imul hx hb dX7_notes_8 ?_
  refine lv_iadd hx hb dX7_notes_9 ?_
  refine lv_iload_n hx hb dX7_notes_10 rfl (lv_at hl 2 rfl) ?_
  refine lv_iadd hx hb dX7_notes_11 ?_
  obtain ⟨g1, h⟩ := gs_gd_e h
  refine va_iald hx hb hk.1 hP 1 0 rfl rfl (gs_in_e g1) dX7_notes_12 ?_
  have h := Option.some.inj h
  subst h
  exact hret _ _ dX7_notes_13

abbrev w_X7_holds (E : gs_E) (a_t a_t_row : Nat) (r_t_row : Nat → Int32) : va_W := [(a_t, .inr (7, [.ref a_t_row])), (a_t_row, .inl (E.2.1, 78, .inl r_t_row))]
abbrev rm_X7_holds : Room := { frames := 1, cells := 0, slots := 0, locals := 22 }
def f_X7_holds (x1 : Int32) (x2 : Int32) (r_t_row : Nat → Int32) : Option (Int32) :=
  gs_b1 (f_X7_notes x1 x2 r_t_row) fun r1 =>
  if r1 = (-1) then
    some 0
  else
    some 1
set_option maxHeartbeats 4000000 in
set_option maxRecDepth 100000 in
theorem c_X7_holds (l : Launch) (E : gs_E) (a_t a_t_row : Nat) (r_t_row : Nat → Int32) (x1 : Int32) (x2 : Int32) (rr : Int32) (h : f_X7_holds x1 x2 r_t_row = some rr) : gs_MR l yX7_holds wsX7_holds rm_X7_holds [.ref a_t, .int x1, .int x2] E (w_X7_holds E a_t a_t_row r_t_row) (some (.int rr)) := by
  refine Met.ofW (cc := cX7_holds) (maxL := 3) (ret := (some .boolean)) (by decide) rfl ?_
  intro p e s m args below meth c s₁ B hml hv
  obtain ⟨rfl, hP, hk, hD0⟩ := hv
  have X0 : gs_X wsX7_holds cX7_holds RX7 3 (some .boolean) p s m ([.ref a_t, .int x1, .int x2] : List Value).toArray meth c := gs_X.of B hml
  obtain ⟨hx, hb, -, hown, hts, hr, hlk⟩ := id X0
  have hD := hD0
  have hret : ∀ (pc : Nat) (ls : Array Slot), narrow .boolean (.int rr) = .int rr → decode cX7_holds pc = .ok (.ireturn, 1) → W p l e rm_X7_holds s m ([.ref a_t, .int x1, .int x2] : List Value).toArray below meth c s.heap [] 0 0 (MQ below (gs_QR (some (.int rr))) ([.ref a_t, .int x1, .int x2] : List Value).toArray s 0 0 (fun _ => False)) (F0 m pc ls [.int rr]) := fun pc ls hnar hd => W.zret hx hb hr hnar (fun t ht hW => ⟨rfl, ht⟩) (fun q hq => by cases hq) hd
  have hl := lv_entry ([.ref a_t, .int x1, .int x2]) (n := 3) (Nat.le_of_ble_eq_true rfl)
  rw [lg_entry_eq]
  generalize (lg_sl ([.ref a_t, .int x1, .int x2]) ++ List.replicate (3 - (lg_sl ([.ref a_t, .int x1, .int x2])).length) Slot.unset).toArray = ls at hl ⊢
  have hl : lv_has ls 3 [(0, .ref a_t), (1, .int x1), (2, .int x2)] := hl
  unfold f_X7_holds at h
  refine lv_aload_n hx hb dX7_holds_0 rfl (lv_at hl 0 rfl) ?_
  refine lv_iload_n hx hb dX7_holds_1 rfl (lv_at hl 1 rfl) ?_
  refine lv_iload_n hx hb dX7_holds_2 rfl (lv_at hl 2 rfl) ?_
  obtain ⟨r1, hz1, h⟩ := gs_b1_e h
  refine gs_backRi (va_runV (As := [.int x1, .int x2]) (rest := []) ⟨hx, hb, hml, hown, hts⟩ (c_X7_notes l E a_t a_t_row r_t_row x1 x2 r1 hz1) (cwV 2 hts gX7_holds_X7_notes rfl rfl rfl (by decide +kernel) ⟨Nat.le_of_ble_eq_true rfl, Nat.le_of_ble_eq_true rfl⟩) (gs_preV (ci := 7) hk hP hD (is := [0, 1]) rfl rfl rfl rfl) rfl rfl hl.1 rfl (lv_room (Nat.le_of_ble_eq_true rfl)) dX7_holds_3 ⟨Nat.zero_le _, Nat.zero_le _⟩) ?_
  refine lv_iconst (v := (-1)) hx hb dX7_holds_6 (by decide) ?_
  refine lv_icmp_eq (tgt := 14) hx hb dX7_holds_7 (by decide) (fun c2 => ?_) (fun c2 => ?_)
  · replace h := gs_ift c2 h
    refine lv_iconst (v := 0) hx hb dX7_holds_14 (by decide) ?_
    have h := Option.some.inj h
    subst h
    exact hret _ _ rfl dX7_holds_15
  · replace h := gs_iff c2 h
    refine lv_iconst (v := 1) hx hb dX7_holds_10 (by decide) ?_
    refine lv_goto (tgt := 15) hx hb dX7_holds_11 (by decide) ?_
    have h := Option.some.inj h
    subst h
    exact hret _ _ rfl dX7_holds_15

abbrev w_X7_setNotes (E : gs_E) (a_t a_t_row : Nat) (r_t_row : Nat → Int32) : va_W := [(a_t, .inr (7, [.ref a_t_row])), (a_t_row, .inl (E.2.1, 78, .inl r_t_row))]
abbrev rm_X7_setNotes : Room := { frames := 0, cells := 0, slots := 0, locals := 0 }
def f_X7_setNotes (x1 : Int32) (x2 : Int32) (x3 : Int32) (r_t_row : Nat → Int32) : Option ((Nat → Int32)) :=
  gs_gd (gs_in ((8 + (x1 * 5)) + x2) 78) <|
  some (upd r_t_row ((8 + (x1 * 5)) + x2).toNatClampNeg x3)
set_option maxHeartbeats 4000000 in
set_option maxRecDepth 100000 in
theorem c_X7_setNotes (l : Launch) (E : gs_E) (a_t a_t_row : Nat) (r_t_row : Nat → Int32) (x1 : Int32) (x2 : Int32) (x3 : Int32) (o_t_row : Nat → Int32) (h : f_X7_setNotes x1 x2 x3 r_t_row = some o_t_row) : gs_MW l yX7_setNotes wsX7_setNotes rm_X7_setNotes [.ref a_t, .int x1, .int x2, .int x3] E (w_X7_setNotes E a_t a_t_row r_t_row) (w_X7_setNotes E a_t a_t_row o_t_row) none := by
  refine Met.ofW (cc := cX7_setNotes) (maxL := 4) (ret := none) (by decide) rfl ?_
  intro p e s m args below meth c s₁ B hml hv
  obtain ⟨rfl, hP, hk, hD0⟩ := hv
  have X0 : gs_X wsX7_setNotes cX7_setNotes RX7 4 none p s m ([.ref a_t, .int x1, .int x2, .int x3] : List Value).toArray meth c := gs_X.of B hml
  obtain ⟨hx, hb, -, hown, hts, hr, hlk⟩ := id X0
  have hD := (gs_D_self hD0)
  generalize hAe : gs_w (w_X7_setNotes E a_t a_t_row r_t_row) = A at hD ⊢
  have hS : va_S A s.heap s.heap [] := va_S.rf
  have hret : ∀ (H : Heap) (locs : List Loc) (pc : Nat) (ls : Array Slot), va_P E.1 vwCl (w_X7_setNotes E a_t a_t_row o_t_row) H → va_S A s.heap H locs → decode cX7_setNotes pc = .ok (.return_, 1) → W p l e rm_X7_setNotes s m ([.ref a_t, .int x1, .int x2, .int x3] : List Value).toArray below meth c H locs 0 0 (MQ below (gs_QWA E A (w_X7_setNotes E a_t a_t_row o_t_row) none) ([.ref a_t, .int x1, .int x2, .int x3] : List Value).toArray s 0 0 A) (F0 m pc ls []) := fun H locs pc ls hP hS hd => W.vret hx hb hr (fun t ht hW => ⟨rfl, by rw [ht]; exact hP, hS.F ht⟩) hS.2.2 hd
  have hl := lv_entry ([.ref a_t, .int x1, .int x2, .int x3]) (n := 4) (Nat.le_of_ble_eq_true rfl)
  rw [lg_entry_eq]
  generalize (lg_sl ([.ref a_t, .int x1, .int x2, .int x3]) ++ List.replicate (4 - (lg_sl ([.ref a_t, .int x1, .int x2, .int x3])).length) Slot.unset).toArray = ls at hl ⊢
  have hl : lv_has ls 4 [(0, .ref a_t), (1, .int x1), (2, .int x2), (3, .int x3)] := hl
  unfold f_X7_setNotes at h
  refine lv_aload_n hx hb dX7_setNotes_0 rfl (lv_at hl 0 rfl) ?_
  refine va_get (D := E.1) (ci := 7) (v := .ref a_t_row) (C := RX7) (T := TX7) (N := 1) hx hb hts (fun _ h => (List.mem_cons_of_mem _ (List.mem_append_right _ h))) hown hk.1 hP 0 rfl rfl 0 (by decide) (hts (.fieldLink RX7 11 "GapSongs$State" "row" "[I") (List.mem_cons_of_mem _ (List.mem_append_left _ (List.mem_of_getElem? (i := 0) rfl)))) (fun _ h9 => h9) rfl dX7_setNotes_1 ?_
  refine lv_bipush (v := 8) hx hb dX7_setNotes_4 (by decide) ?_
  refine lv_iload_n hx hb dX7_setNotes_6 rfl (lv_at hl 1 rfl) ?_
  refine lv_iconst (v := 5) hx hb dX7_setNotes_7 (by decide) ?_
  refine lv_imul hx hb dX7_setNotes_8 ?_
  refine lv_iadd hx hb dX7_setNotes_9 ?_
  refine lv_iload_n hx hb dX7_setNotes_10 rfl (lv_at hl 2 rfl) ?_
  refine lv_iadd hx hb dX7_setNotes_11 ?_
  refine lv_iload_n hx hb dX7_setNotes_12 rfl (lv_at hl 3 rfl) ?_
  obtain ⟨g1, h⟩ := gs_gd_e h
  refine va_iast hx hb hk.1 hP hD hS 1 0 rfl rfl (gs_in_e g1) dX7_setNotes_13 (fun H locs hP hD hS => ?_)
  have hP : va_P E.1 vwCl (w_X7_setNotes E a_t a_t_row (upd r_t_row ((8 + (x1 * 5)) + x2).toNatClampNeg x3)) H := hP
  have hD : va_D A (w_X7_setNotes E a_t a_t_row (upd r_t_row ((8 + (x1 * 5)) + x2).toNatClampNeg x3)) := hD
  have h := Option.some.inj h
  subst h
  exact hret _ _ _ _ hP hS dX7_setNotes_14

abbrev w_X7_day (E : gs_E) (a_t a_t_row : Nat) (r_t_row : Nat → Int32) : va_W := [(a_t, .inr (7, [.ref a_t_row])), (a_t_row, .inl (E.2.1, 78, .inl r_t_row))]
abbrev rm_X7_day : Room := { frames := 0, cells := 0, slots := 0, locals := 0 }
def f_X7_day (r_t_row : Nat → Int32) : Option (Int32) :=
  gs_gd (gs_in 0 78) <|
  some (r_t_row (0 : Int32).toNatClampNeg)
set_option maxHeartbeats 4000000 in
set_option maxRecDepth 100000 in
theorem c_X7_day (l : Launch) (E : gs_E) (a_t a_t_row : Nat) (r_t_row : Nat → Int32) (rr : Int32) (h : f_X7_day r_t_row = some rr) : gs_MR l yX7_day wsX7_day rm_X7_day [.ref a_t] E (w_X7_day E a_t a_t_row r_t_row) (some (.int rr)) := by
  refine Met.ofW (cc := cX7_day) (maxL := 1) (ret := (some .int)) (by decide) rfl ?_
  intro p e s m args below meth c s₁ B hml hv
  obtain ⟨rfl, hP, hk, hD0⟩ := hv
  have X0 : gs_X wsX7_day cX7_day RX7 1 (some .int) p s m ([.ref a_t] : List Value).toArray meth c := gs_X.of B hml
  obtain ⟨hx, hb, -, hown, hts, hr, hlk⟩ := id X0
  have hD := hD0
  have hret : ∀ (pc : Nat) (ls : Array Slot), decode cX7_day pc = .ok (.ireturn, 1) → W p l e rm_X7_day s m ([.ref a_t] : List Value).toArray below meth c s.heap [] 0 0 (MQ below (gs_QR (some (.int rr))) ([.ref a_t] : List Value).toArray s 0 0 (fun _ => False)) (F0 m pc ls [.int rr]) := fun pc ls hd => W.iret hx hb hr (fun t ht hW => ⟨rfl, ht⟩) (fun q hq => by cases hq) hd
  have hl := lv_entry ([.ref a_t]) (n := 1) (Nat.le_of_ble_eq_true rfl)
  rw [lg_entry_eq]
  generalize (lg_sl ([.ref a_t]) ++ List.replicate (1 - (lg_sl ([.ref a_t])).length) Slot.unset).toArray = ls at hl ⊢
  have hl : lv_has ls 1 [(0, .ref a_t)] := hl
  unfold f_X7_day at h
  refine lv_aload_n hx hb dX7_day_0 rfl (lv_at hl 0 rfl) ?_
  refine va_get (D := E.1) (ci := 7) (v := .ref a_t_row) (C := RX7) (T := TX7) (N := 1) hx hb hts (fun _ h => (List.mem_cons_of_mem _ (List.mem_append_right _ h))) hown hk.1 hP 0 rfl rfl 0 (by decide) (hts (.fieldLink RX7 11 "GapSongs$State" "row" "[I") (List.mem_cons_of_mem _ (List.mem_append_left _ (List.mem_of_getElem? (i := 0) rfl)))) (fun _ h9 => h9) rfl dX7_day_1 ?_
  refine lv_iconst (v := 0) hx hb dX7_day_4 (by decide) ?_
  obtain ⟨g1, h⟩ := gs_gd_e h
  refine va_iald hx hb hk.1 hP 1 0 rfl rfl (gs_in_e g1) dX7_day_5 ?_
  have h := Option.some.inj h
  subst h
  exact hret _ _ dX7_day_6

abbrev w_X7_nextDay (E : gs_E) (a_t a_t_row : Nat) (r_t_row : Nat → Int32) : va_W := [(a_t, .inr (7, [.ref a_t_row])), (a_t_row, .inl (E.2.1, 78, .inl r_t_row))]
abbrev rm_X7_nextDay : Room := { frames := 0, cells := 0, slots := 0, locals := 0 }
def f_X7_nextDay (r_t_row : Nat → Int32) : Option ((Nat → Int32)) :=
  gs_gd (gs_in 0 78) <|
  gs_gd (gs_in 0 78) <|
  some (upd r_t_row (0 : Int32).toNatClampNeg ((r_t_row (0 : Int32).toNatClampNeg) + 1))
set_option maxHeartbeats 4000000 in
set_option maxRecDepth 100000 in
theorem c_X7_nextDay (l : Launch) (E : gs_E) (a_t a_t_row : Nat) (r_t_row : Nat → Int32) (o_t_row : Nat → Int32) (h : f_X7_nextDay r_t_row = some o_t_row) : gs_MW l yX7_nextDay wsX7_nextDay rm_X7_nextDay [.ref a_t] E (w_X7_nextDay E a_t a_t_row r_t_row) (w_X7_nextDay E a_t a_t_row o_t_row) none := by
  refine Met.ofW (cc := cX7_nextDay) (maxL := 1) (ret := none) (by decide) rfl ?_
  intro p e s m args below meth c s₁ B hml hv
  obtain ⟨rfl, hP, hk, hD0⟩ := hv
  have X0 : gs_X wsX7_nextDay cX7_nextDay RX7 1 none p s m ([.ref a_t] : List Value).toArray meth c := gs_X.of B hml
  obtain ⟨hx, hb, -, hown, hts, hr, hlk⟩ := id X0
  have hD := (gs_D_self hD0)
  generalize hAe : gs_w (w_X7_nextDay E a_t a_t_row r_t_row) = A at hD ⊢
  have hS : va_S A s.heap s.heap [] := va_S.rf
  have hret : ∀ (H : Heap) (locs : List Loc) (pc : Nat) (ls : Array Slot), va_P E.1 vwCl (w_X7_nextDay E a_t a_t_row o_t_row) H → va_S A s.heap H locs → decode cX7_nextDay pc = .ok (.return_, 1) → W p l e rm_X7_nextDay s m ([.ref a_t] : List Value).toArray below meth c H locs 0 0 (MQ below (gs_QWA E A (w_X7_nextDay E a_t a_t_row o_t_row) none) ([.ref a_t] : List Value).toArray s 0 0 A) (F0 m pc ls []) := fun H locs pc ls hP hS hd => W.vret hx hb hr (fun t ht hW => ⟨rfl, by rw [ht]; exact hP, hS.F ht⟩) hS.2.2 hd
  have hl := lv_entry ([.ref a_t]) (n := 1) (Nat.le_of_ble_eq_true rfl)
  rw [lg_entry_eq]
  generalize (lg_sl ([.ref a_t]) ++ List.replicate (1 - (lg_sl ([.ref a_t])).length) Slot.unset).toArray = ls at hl ⊢
  have hl : lv_has ls 1 [(0, .ref a_t)] := hl
  unfold f_X7_nextDay at h
  refine lv_aload_n hx hb dX7_nextDay_0 rfl (lv_at hl 0 rfl) ?_
  refine va_get (D := E.1) (ci := 7) (v := .ref a_t_row) (C := RX7) (T := TX7) (N := 1) hx hb hts (fun _ h => (List.mem_cons_of_mem _ (List.mem_append_right _ h))) hown hk.1 hP 0 rfl rfl 0 (by decide) (hts (.fieldLink RX7 11 "GapSongs$State" "row" "[I") (List.mem_cons_of_mem _ (List.mem_append_left _ (List.mem_of_getElem? (i := 0) rfl)))) (fun _ h9 => h9) rfl dX7_nextDay_1 ?_
  refine lv_iconst (v := 0) hx hb dX7_nextDay_4 (by decide) ?_
  refine lv_dup2_11 hx hb dX7_nextDay_5 rfl rfl ?_
  obtain ⟨g1, h⟩ := gs_gd_e h
  refine va_iald hx hb hk.1 hP 1 0 rfl rfl (gs_in_e g1) dX7_nextDay_6 ?_
  refine lv_iconst (v := 1) hx hb dX7_nextDay_7 (by decide) ?_
  refine lv_iadd hx hb dX7_nextDay_8 ?_
  obtain ⟨g2, h⟩ := gs_gd_e h
  refine va_iast hx hb hk.1 hP hD hS 1 0 rfl rfl (gs_in_e g2) dX7_nextDay_9 (fun H locs hP hD hS => ?_)
  have hP : va_P E.1 vwCl (w_X7_nextDay E a_t a_t_row (upd r_t_row (0 : Int32).toNatClampNeg ((r_t_row (0 : Int32).toNatClampNeg) + 1))) H := hP
  have hD : va_D A (w_X7_nextDay E a_t a_t_row (upd r_t_row (0 : Int32).toNatClampNeg ((r_t_row (0 : Int32).toNatClampNeg) + 1))) := hD
  have h := Option.some.inj h
  subst h
  exact hret _ _ _ _ hP hS dX7_nextDay_10

abbrev w_X7_drop (E : gs_E) (a_t a_t_row : Nat) (r_t_row : Nat → Int32) : va_W := [(a_t, .inr (7, [.ref a_t_row])), (a_t_row, .inl (E.2.1, 78, .inl r_t_row))]
abbrev rm_X7_drop : Room := { frames := 1, cells := 0, slots := 0, locals := 23 }
def f_X7_drop (x1 : Int32) (x2 : Int32) (r_t_row : Nat → Int32) : Option ((Nat → Int32)) :=
  gs_b1 (f_X7_setNotes x1 x2 (-1) r_t_row) fun o1_0 =>
  some o1_0
set_option maxHeartbeats 4000000 in
set_option maxRecDepth 100000 in
theorem c_X7_drop (l : Launch) (E : gs_E) (a_t a_t_row : Nat) (r_t_row : Nat → Int32) (x1 : Int32) (x2 : Int32) (o_t_row : Nat → Int32) (h : f_X7_drop x1 x2 r_t_row = some o_t_row) : gs_MW l yX7_drop wsX7_drop rm_X7_drop [.ref a_t, .int x1, .int x2] E (w_X7_drop E a_t a_t_row r_t_row) (w_X7_drop E a_t a_t_row o_t_row) none := by
  refine Met.ofW (cc := cX7_drop) (maxL := 3) (ret := none) (by decide) rfl ?_
  intro p e s m args below meth c s₁ B hml hv
  obtain ⟨rfl, hP, hk, hD0⟩ := hv
  have X0 : gs_X wsX7_drop cX7_drop RX7 3 none p s m ([.ref a_t, .int x1, .int x2] : List Value).toArray meth c := gs_X.of B hml
  obtain ⟨hx, hb, -, hown, hts, hr, hlk⟩ := id X0
  have hD := (gs_D_self hD0)
  generalize hAe : gs_w (w_X7_drop E a_t a_t_row r_t_row) = A at hD ⊢
  have hS : va_S A s.heap s.heap [] := va_S.rf
  have hret : ∀ (H : Heap) (locs : List Loc) (pc : Nat) (ls : Array Slot), va_P E.1 vwCl (w_X7_drop E a_t a_t_row o_t_row) H → va_S A s.heap H locs → decode cX7_drop pc = .ok (.return_, 1) → W p l e rm_X7_drop s m ([.ref a_t, .int x1, .int x2] : List Value).toArray below meth c H locs 0 0 (MQ below (gs_QWA E A (w_X7_drop E a_t a_t_row o_t_row) none) ([.ref a_t, .int x1, .int x2] : List Value).toArray s 0 0 A) (F0 m pc ls []) := fun H locs pc ls hP hS hd => W.vret hx hb hr (fun t ht hW => ⟨rfl, by rw [ht]; exact hP, hS.F ht⟩) hS.2.2 hd
  have hl := lv_entry ([.ref a_t, .int x1, .int x2]) (n := 3) (Nat.le_of_ble_eq_true rfl)
  rw [lg_entry_eq]
  generalize (lg_sl ([.ref a_t, .int x1, .int x2]) ++ List.replicate (3 - (lg_sl ([.ref a_t, .int x1, .int x2])).length) Slot.unset).toArray = ls at hl ⊢
  have hl : lv_has ls 3 [(0, .ref a_t), (1, .int x1), (2, .int x2)] := hl
  unfold f_X7_drop at h
  refine lv_aload_n hx hb dX7_drop_0 rfl (lv_at hl 0 rfl) ?_
  refine lv_iload_n hx hb dX7_drop_1 rfl (lv_at hl 1 rfl) ?_
  refine lv_iload_n hx hb dX7_drop_2 rfl (lv_at hl 2 rfl) ?_
  refine lv_iconst (v := (-1)) hx hb dX7_drop_3 (by decide) ?_
  obtain ⟨o1_0, hz1, h⟩ := gs_b1_e h
  refine gs_backWv (ws1 := (w_X7_drop E a_t a_t_row o1_0)) (va_runV (As := [.int x1, .int x2, .int (-1)]) (rest := []) ⟨hx, hb, hml, hown, hts⟩ (c_X7_setNotes l E a_t a_t_row r_t_row x1 x2 (-1) o1_0 hz1) (cwV 3 hts gX7_drop_X7_setNotes rfl rfl rfl (by decide +kernel) ⟨Nat.le_of_ble_eq_true rfl, Nat.le_of_ble_eq_true rfl⟩) (gs_preV (ci := 7) hk hP hD (is := [0, 1]) rfl rfl rfl rfl) rfl rfl hl.1 rfl (lv_room (Nat.le_of_ble_eq_true rfl)) dX7_drop_4 ⟨Nat.zero_le _, Nat.zero_le _⟩) hP hD hS [0, 1] rfl rfl rfl rfl (fun H locs hP hD hS => ?_)
  have h := Option.some.inj h
  subst h
  exact hret _ _ _ _ hP hS dX7_drop_7

abbrev w_X7_teacher (E : gs_E) (a_t a_t_row : Nat) (r_t_row : Nat → Int32) : va_W := [(a_t, .inr (7, [.ref a_t_row])), (a_t_row, .inl (E.2.1, 78, .inl r_t_row))]
abbrev rm_X7_teacher : Room := { frames := 0, cells := 0, slots := 0, locals := 0 }
def f_X7_teacher (x1 : Int32) (x2 : Int32) (r_t_row : Nat → Int32) : Option (Int32) :=
  gs_gd (gs_in ((43 + (x1 * 5)) + x2) 78) <|
  some (r_t_row ((43 + (x1 * 5)) + x2).toNatClampNeg)
set_option maxHeartbeats 4000000 in
set_option maxRecDepth 100000 in
theorem c_X7_teacher (l : Launch) (E : gs_E) (a_t a_t_row : Nat) (r_t_row : Nat → Int32) (x1 : Int32) (x2 : Int32) (rr : Int32) (h : f_X7_teacher x1 x2 r_t_row = some rr) : gs_MR l yX7_teacher wsX7_teacher rm_X7_teacher [.ref a_t, .int x1, .int x2] E (w_X7_teacher E a_t a_t_row r_t_row) (some (.int rr)) := by
  refine Met.ofW (cc := cX7_teacher) (maxL := 3) (ret := (some .int)) (by decide) rfl ?_
  intro p e s m args below meth c s₁ B hml hv
  obtain ⟨rfl, hP, hk, hD0⟩ := hv
  have X0 : gs_X wsX7_teacher cX7_teacher RX7 3 (some .int) p s m ([.ref a_t, .int x1, .int x2] : List Value).toArray meth c := gs_X.of B hml
  obtain ⟨hx, hb, -, hown, hts, hr, hlk⟩ := id X0
  have hD := hD0
  have hret : ∀ (pc : Nat) (ls : Array Slot), decode cX7_teacher pc = .ok (.ireturn, 1) → W p l e rm_X7_teacher s m ([.ref a_t, .int x1, .int x2] : List Value).toArray below meth c s.heap [] 0 0 (MQ below (gs_QR (some (.int rr))) ([.ref a_t, .int x1, .int x2] : List Value).toArray s 0 0 (fun _ => False)) (F0 m pc ls [.int rr]) := fun pc ls hd => W.iret hx hb hr (fun t ht hW => ⟨rfl, ht⟩) (fun q hq => by cases hq) hd
  have hl := lv_entry ([.ref a_t, .int x1, .int x2]) (n := 3) (Nat.le_of_ble_eq_true rfl)
  rw [lg_entry_eq]
  generalize (lg_sl ([.ref a_t, .int x1, .int x2]) ++ List.replicate (3 - (lg_sl ([.ref a_t, .int x1, .int x2])).length) Slot.unset).toArray = ls at hl ⊢
  have hl : lv_has ls 3 [(0, .ref a_t), (1, .int x1), (2, .int x2)] := hl
  unfold f_X7_teacher at h
  refine lv_aload_n hx hb dX7_teacher_0 rfl (lv_at hl 0 rfl) ?_
  refine va_get (D := E.1) (ci := 7) (v := .ref a_t_row) (C := RX7) (T := TX7) (N := 1) hx hb hts (fun _ h => (List.mem_cons_of_mem _ (List.mem_append_right _ h))) hown hk.1 hP 0 rfl rfl 0 (by decide) (hts (.fieldLink RX7 11 "GapSongs$State" "row" "[I") (List.mem_cons_of_mem _ (List.mem_append_left _ (List.mem_of_getElem? (i := 0) rfl)))) (fun _ h9 => h9) rfl dX7_teacher_1 ?_
  refine lv_bipush (v := 43) hx hb dX7_teacher_4 (by decide) ?_
  refine lv_iload_n hx hb dX7_teacher_6 rfl (lv_at hl 1 rfl) ?_
  refine lv_iconst (v := 5) hx hb dX7_teacher_7 (by decide) ?_
  refine lv_imul hx hb dX7_teacher_8 ?_
  refine lv_iadd hx hb dX7_teacher_9 ?_
  refine lv_iload_n hx hb dX7_teacher_10 rfl (lv_at hl 2 rfl) ?_
  refine lv_iadd hx hb dX7_teacher_11 ?_
  obtain ⟨g1, h⟩ := gs_gd_e h
  refine va_iald hx hb hk.1 hP 1 0 rfl rfl (gs_in_e g1) dX7_teacher_12 ?_
  have h := Option.some.inj h
  subst h
  exact hret _ _ dX7_teacher_13

abbrev w_X7_setLearnt (E : gs_E) (a_t a_t_row : Nat) (r_t_row : Nat → Int32) : va_W := [(a_t, .inr (7, [.ref a_t_row])), (a_t_row, .inl (E.2.1, 78, .inl r_t_row))]
abbrev rm_X7_setLearnt : Room := { frames := 0, cells := 0, slots := 0, locals := 0 }
def f_X7_setLearnt (x1 : Int32) (x2 : Int32) (x3 : Int32) (x4 : Int32) (r_t_row : Nat → Int32) : Option ((Nat → Int32)) :=
  gs_gd (gs_in ((8 + (x1 * 5)) + x2) 78) <|
  gs_gd (gs_in ((43 + (x1 * 5)) + x2) 78) <|
  some (upd (upd r_t_row ((8 + (x1 * 5)) + x2).toNatClampNeg x3) ((43 + (x1 * 5)) + x2).toNatClampNeg x4)
set_option maxHeartbeats 4000000 in
set_option maxRecDepth 100000 in
theorem c_X7_setLearnt (l : Launch) (E : gs_E) (a_t a_t_row : Nat) (r_t_row : Nat → Int32) (x1 : Int32) (x2 : Int32) (x3 : Int32) (x4 : Int32) (o_t_row : Nat → Int32) (h : f_X7_setLearnt x1 x2 x3 x4 r_t_row = some o_t_row) : gs_MW l yX7_setLearnt wsX7_setLearnt rm_X7_setLearnt [.ref a_t, .int x1, .int x2, .int x3, .int x4] E (w_X7_setLearnt E a_t a_t_row r_t_row) (w_X7_setLearnt E a_t a_t_row o_t_row) none := by
  refine Met.ofW (cc := cX7_setLearnt) (maxL := 5) (ret := none) (by decide) rfl ?_
  intro p e s m args below meth c s₁ B hml hv
  obtain ⟨rfl, hP, hk, hD0⟩ := hv
  have X0 : gs_X wsX7_setLearnt cX7_setLearnt RX7 5 none p s m ([.ref a_t, .int x1, .int x2, .int x3, .int x4] : List Value).toArray meth c := gs_X.of B hml
  obtain ⟨hx, hb, -, hown, hts, hr, hlk⟩ := id X0
  have hD := (gs_D_self hD0)
  generalize hAe : gs_w (w_X7_setLearnt E a_t a_t_row r_t_row) = A at hD ⊢
  have hS : va_S A s.heap s.heap [] := va_S.rf
  have hret : ∀ (H : Heap) (locs : List Loc) (pc : Nat) (ls : Array Slot), va_P E.1 vwCl (w_X7_setLearnt E a_t a_t_row o_t_row) H → va_S A s.heap H locs → decode cX7_setLearnt pc = .ok (.return_, 1) → W p l e rm_X7_setLearnt s m ([.ref a_t, .int x1, .int x2, .int x3, .int x4] : List Value).toArray below meth c H locs 0 0 (MQ below (gs_QWA E A (w_X7_setLearnt E a_t a_t_row o_t_row) none) ([.ref a_t, .int x1, .int x2, .int x3, .int x4] : List Value).toArray s 0 0 A) (F0 m pc ls []) := fun H locs pc ls hP hS hd => W.vret hx hb hr (fun t ht hW => ⟨rfl, by rw [ht]; exact hP, hS.F ht⟩) hS.2.2 hd
  have hl := lv_entry ([.ref a_t, .int x1, .int x2, .int x3, .int x4]) (n := 5) (Nat.le_of_ble_eq_true rfl)
  rw [lg_entry_eq]
  generalize (lg_sl ([.ref a_t, .int x1, .int x2, .int x3, .int x4]) ++ List.replicate (5 - (lg_sl ([.ref a_t, .int x1, .int x2, .int x3, .int x4])).length) Slot.unset).toArray = ls at hl ⊢
  have hl : lv_has ls 5 [(0, .ref a_t), (1, .int x1), (2, .int x2), (3, .int x3), (4, .int x4)] := hl
  unfold f_X7_setLearnt at h
  refine lv_aload_n hx hb dX7_setLearnt_0 rfl (lv_at hl 0 rfl) ?_
  refine va_get (D := E.1) (ci := 7) (v := .ref a_t_row) (C := RX7) (T := TX7) (N := 1) hx hb hts (fun _ h => (List.mem_cons_of_mem _ (List.mem_append_right _ h))) hown hk.1 hP 0 rfl rfl 0 (by decide) (hts (.fieldLink RX7 11 "GapSongs$State" "row" "[I") (List.mem_cons_of_mem _ (List.mem_append_left _ (List.mem_of_getElem? (i := 0) rfl)))) (fun _ h9 => h9) rfl dX7_setLearnt_1 ?_
  refine lv_bipush (v := 8) hx hb dX7_setLearnt_4 (by decide) ?_
  refine lv_iload_n hx hb dX7_setLearnt_6 rfl (lv_at hl 1 rfl) ?_
  refine lv_iconst (v := 5) hx hb dX7_setLearnt_7 (by decide) ?_
  refine lv_imul hx hb dX7_setLearnt_8 ?_
  refine lv_iadd hx hb dX7_setLearnt_9 ?_
  refine lv_iload_n hx hb dX7_setLearnt_10 rfl (lv_at hl 2 rfl) ?_
  refine lv_iadd hx hb dX7_setLearnt_11 ?_
  refine lv_iload_n hx hb dX7_setLearnt_12 rfl (lv_at hl 3 rfl) ?_
  obtain ⟨g1, h⟩ := gs_gd_e h
  refine va_iast hx hb hk.1 hP hD hS 1 0 rfl rfl (gs_in_e g1) dX7_setLearnt_13 (fun H locs hP hD hS => ?_)
  have hP : va_P E.1 vwCl (w_X7_setLearnt E a_t a_t_row (upd r_t_row ((8 + (x1 * 5)) + x2).toNatClampNeg x3)) H := hP
  have hD : va_D A (w_X7_setLearnt E a_t a_t_row (upd r_t_row ((8 + (x1 * 5)) + x2).toNatClampNeg x3)) := hD
  refine lv_aload_n hx hb dX7_setLearnt_14 rfl (lv_at hl 0 rfl) ?_
  refine va_get (D := E.1) (ci := 7) (v := .ref a_t_row) (C := RX7) (T := TX7) (N := 1) hx hb hts (fun _ h => (List.mem_cons_of_mem _ (List.mem_append_right _ h))) hown hk.1 hP 0 rfl rfl 0 (by decide) (hts (.fieldLink RX7 11 "GapSongs$State" "row" "[I") (List.mem_cons_of_mem _ (List.mem_append_left _ (List.mem_of_getElem? (i := 0) rfl)))) (fun _ h9 => h9) rfl dX7_setLearnt_15 ?_
  refine lv_bipush (v := 43) hx hb dX7_setLearnt_18 (by decide) ?_
  refine lv_iload_n hx hb dX7_setLearnt_20 rfl (lv_at hl 1 rfl) ?_
  refine lv_iconst (v := 5) hx hb dX7_setLearnt_21 (by decide) ?_
  refine lv_imul hx hb dX7_setLearnt_22 ?_
  refine lv_iadd hx hb dX7_setLearnt_23 ?_
  refine lv_iload_n hx hb dX7_setLearnt_24 rfl (lv_at hl 2 rfl) ?_
  refine lv_iadd hx hb dX7_setLearnt_25 ?_
  refine lv_iload hx hb dX7_setLearnt_26 (lv_at hl 4 rfl) ?_
  obtain ⟨g2, h⟩ := gs_gd_e h
  refine va_iast hx hb hk.1 hP hD hS 1 0 rfl rfl (gs_in_e g2) dX7_setLearnt_28 (fun H locs hP hD hS => ?_)
  have hP : va_P E.1 vwCl (w_X7_setLearnt E a_t a_t_row (upd (upd r_t_row ((8 + (x1 * 5)) + x2).toNatClampNeg x3) ((43 + (x1 * 5)) + x2).toNatClampNeg x4)) H := hP
  have hD : va_D A (w_X7_setLearnt E a_t a_t_row (upd (upd r_t_row ((8 + (x1 * 5)) + x2).toNatClampNeg x3) ((43 + (x1 * 5)) + x2).toNatClampNeg x4)) := hD
  have h := Option.some.inj h
  subst h
  exact hret _ _ _ _ hP hS dX7_setLearnt_29

abbrev w_X7_seeks (E : gs_E) (a_t a_t_row : Nat) (r_t_row : Nat → Int32) : va_W := [(a_t, .inr (7, [.ref a_t_row])), (a_t_row, .inl (E.2.1, 78, .inl r_t_row))]
abbrev rm_X7_seeks : Room := { frames := 0, cells := 0, slots := 0, locals := 0 }
def f_X7_seeks (x1 : Int32) (r_t_row : Nat → Int32) : Option (Int32) :=
  gs_gd (gs_in (1 + x1) 78) <|
  if (r_t_row (1 + x1).toNatClampNeg) = (-1) then
    some 0
  else
    some 1
set_option maxHeartbeats 4000000 in
set_option maxRecDepth 100000 in
theorem c_X7_seeks (l : Launch) (E : gs_E) (a_t a_t_row : Nat) (r_t_row : Nat → Int32) (x1 : Int32) (rr : Int32) (h : f_X7_seeks x1 r_t_row = some rr) : gs_MR l yX7_seeks wsX7_seeks rm_X7_seeks [.ref a_t, .int x1] E (w_X7_seeks E a_t a_t_row r_t_row) (some (.int rr)) := by
  refine Met.ofW (cc := cX7_seeks) (maxL := 2) (ret := (some .boolean)) (by decide) rfl ?_
  intro p e s m args below meth c s₁ B hml hv
  obtain ⟨rfl, hP, hk, hD0⟩ := hv
  have X0 : gs_X wsX7_seeks cX7_seeks RX7 2 (some .boolean) p s m ([.ref a_t, .int x1] : List Value).toArray meth c := gs_X.of B hml
  obtain ⟨hx, hb, -, hown, hts, hr, hlk⟩ := id X0
  have hD := hD0
  have hret : ∀ (pc : Nat) (ls : Array Slot), narrow .boolean (.int rr) = .int rr → decode cX7_seeks pc = .ok (.ireturn, 1) → W p l e rm_X7_seeks s m ([.ref a_t, .int x1] : List Value).toArray below meth c s.heap [] 0 0 (MQ below (gs_QR (some (.int rr))) ([.ref a_t, .int x1] : List Value).toArray s 0 0 (fun _ => False)) (F0 m pc ls [.int rr]) := fun pc ls hnar hd => W.zret hx hb hr hnar (fun t ht hW => ⟨rfl, ht⟩) (fun q hq => by cases hq) hd
  have hl := lv_entry ([.ref a_t, .int x1]) (n := 2) (Nat.le_of_ble_eq_true rfl)
  rw [lg_entry_eq]
  generalize (lg_sl ([.ref a_t, .int x1]) ++ List.replicate (2 - (lg_sl ([.ref a_t, .int x1])).length) Slot.unset).toArray = ls at hl ⊢
  have hl : lv_has ls 2 [(0, .ref a_t), (1, .int x1)] := hl
  unfold f_X7_seeks at h
  refine lv_aload_n hx hb dX7_seeks_0 rfl (lv_at hl 0 rfl) ?_
  refine va_get (D := E.1) (ci := 7) (v := .ref a_t_row) (C := RX7) (T := TX7) (N := 1) hx hb hts (fun _ h => (List.mem_cons_of_mem _ (List.mem_append_right _ h))) hown hk.1 hP 0 rfl rfl 0 (by decide) (hts (.fieldLink RX7 11 "GapSongs$State" "row" "[I") (List.mem_cons_of_mem _ (List.mem_append_left _ (List.mem_of_getElem? (i := 0) rfl)))) (fun _ h9 => h9) rfl dX7_seeks_1 ?_
  refine lv_iconst (v := 1) hx hb dX7_seeks_4 (by decide) ?_
  refine lv_iload_n hx hb dX7_seeks_5 rfl (lv_at hl 1 rfl) ?_
  refine lv_iadd hx hb dX7_seeks_6 ?_
  obtain ⟨g1, h⟩ := gs_gd_e h
  refine va_iald hx hb hk.1 hP 1 0 rfl rfl (gs_in_e g1) dX7_seeks_7 ?_
  refine lv_iconst (v := (-1)) hx hb dX7_seeks_8 (by decide) ?_
  refine lv_icmp_eq (tgt := 16) hx hb dX7_seeks_9 (by decide) (fun c2 => ?_) (fun c2 => ?_)
  · replace h := gs_ift c2 h
    refine lv_iconst (v := 0) hx hb dX7_seeks_16 (by decide) ?_
    have h := Option.some.inj h
    subst h
    exact hret _ _ rfl dX7_seeks_17
  · replace h := gs_iff c2 h
    refine lv_iconst (v := 1) hx hb dX7_seeks_12 (by decide) ?_
    refine lv_goto (tgt := 17) hx hb dX7_seeks_13 (by decide) ?_
    have h := Option.some.inj h
    subst h
    exact hret _ _ rfl dX7_seeks_17

abbrev w_X7_soughtSong (E : gs_E) (a_t a_t_row : Nat) (r_t_row : Nat → Int32) : va_W := [(a_t, .inr (7, [.ref a_t_row])), (a_t_row, .inl (E.2.1, 78, .inl r_t_row))]
abbrev rm_X7_soughtSong : Room := { frames := 1, cells := 0, slots := 0, locals := 21 }
def f_X7_soughtSong (x1 : Int32) (r_t_row : Nat → Int32) : Option (Int32) :=
  gs_b1 (f_X7_seeks x1 r_t_row) fun r1 =>
  if r1 = 0 then
    some (-1)
  else
    gs_gd (gs_in (1 + x1) 78) <|
    some ((r_t_row (1 + x1).toNatClampNeg) / 7)
set_option maxHeartbeats 4000000 in
set_option maxRecDepth 100000 in
theorem c_X7_soughtSong (l : Launch) (E : gs_E) (a_t a_t_row : Nat) (r_t_row : Nat → Int32) (x1 : Int32) (rr : Int32) (h : f_X7_soughtSong x1 r_t_row = some rr) : gs_MR l yX7_soughtSong wsX7_soughtSong rm_X7_soughtSong [.ref a_t, .int x1] E (w_X7_soughtSong E a_t a_t_row r_t_row) (some (.int rr)) := by
  refine Met.ofW (cc := cX7_soughtSong) (maxL := 2) (ret := (some .int)) (by decide) rfl ?_
  intro p e s m args below meth c s₁ B hml hv
  obtain ⟨rfl, hP, hk, hD0⟩ := hv
  have X0 : gs_X wsX7_soughtSong cX7_soughtSong RX7 2 (some .int) p s m ([.ref a_t, .int x1] : List Value).toArray meth c := gs_X.of B hml
  obtain ⟨hx, hb, -, hown, hts, hr, hlk⟩ := id X0
  have hD := hD0
  have hret : ∀ (pc : Nat) (ls : Array Slot), decode cX7_soughtSong pc = .ok (.ireturn, 1) → W p l e rm_X7_soughtSong s m ([.ref a_t, .int x1] : List Value).toArray below meth c s.heap [] 0 0 (MQ below (gs_QR (some (.int rr))) ([.ref a_t, .int x1] : List Value).toArray s 0 0 (fun _ => False)) (F0 m pc ls [.int rr]) := fun pc ls hd => W.iret hx hb hr (fun t ht hW => ⟨rfl, ht⟩) (fun q hq => by cases hq) hd
  have hl := lv_entry ([.ref a_t, .int x1]) (n := 2) (Nat.le_of_ble_eq_true rfl)
  rw [lg_entry_eq]
  generalize (lg_sl ([.ref a_t, .int x1]) ++ List.replicate (2 - (lg_sl ([.ref a_t, .int x1])).length) Slot.unset).toArray = ls at hl ⊢
  have hl : lv_has ls 2 [(0, .ref a_t), (1, .int x1)] := hl
  unfold f_X7_soughtSong at h
  refine lv_aload_n hx hb dX7_soughtSong_0 rfl (lv_at hl 0 rfl) ?_
  refine lv_iload_n hx hb dX7_soughtSong_1 rfl (lv_at hl 1 rfl) ?_
  obtain ⟨r1, hz1, h⟩ := gs_b1_e h
  refine gs_backRi (va_runV (As := [.int x1]) (rest := []) ⟨hx, hb, hml, hown, hts⟩ (c_X7_seeks l E a_t a_t_row r_t_row x1 r1 hz1) (cwV 1 hts gX7_soughtSong_X7_seeks rfl rfl rfl (by decide +kernel) ⟨Nat.le_of_ble_eq_true rfl, Nat.le_of_ble_eq_true rfl⟩) (gs_preV (ci := 7) hk hP hD (is := [0, 1]) rfl rfl rfl rfl) rfl rfl hl.1 rfl (lv_room (Nat.le_of_ble_eq_true rfl)) dX7_soughtSong_2 ⟨Nat.zero_le _, Nat.zero_le _⟩) ?_
  refine lv_if_eq (tgt := 22) hx hb dX7_soughtSong_5 (by decide) (fun c2 => ?_) (fun c2 => ?_)
  · replace h := gs_ift c2 h
    refine lv_iconst (v := (-1)) hx hb dX7_soughtSong_22 (by decide) ?_
    have h := Option.some.inj h
    subst h
    exact hret _ _ dX7_soughtSong_23
  · replace h := gs_iff c2 h
    refine lv_aload_n hx hb dX7_soughtSong_8 rfl (lv_at hl 0 rfl) ?_
    refine va_get (D := E.1) (ci := 7) (v := .ref a_t_row) (C := RX7) (T := TX7) (N := 1) hx hb hts (fun _ h => (List.mem_cons_of_mem _ (List.mem_append_right _ h))) hown hk.1 hP 0 rfl rfl 0 (by decide) (hts (.fieldLink RX7 11 "GapSongs$State" "row" "[I") (List.mem_cons_of_mem _ (List.mem_append_left _ (List.mem_of_getElem? (i := 0) rfl)))) (fun _ h9 => h9) rfl dX7_soughtSong_9 ?_
    refine lv_iconst (v := 1) hx hb dX7_soughtSong_12 (by decide) ?_
    refine lv_iload_n hx hb dX7_soughtSong_13 rfl (lv_at hl 1 rfl) ?_
    refine lv_iadd hx hb dX7_soughtSong_14 ?_
    obtain ⟨g3, h⟩ := gs_gd_e h
    refine va_iald hx hb hk.1 hP 1 0 rfl rfl (gs_in_e g3) dX7_soughtSong_15 ?_
    refine lv_bipush (v := 7) hx hb dX7_soughtSong_16 (by decide) ?_
    refine lv_idiv hx hb dX7_soughtSong_18 (by decide) ?_
    refine lv_goto (tgt := 23) hx hb dX7_soughtSong_19 (by decide) ?_
    have h := Option.some.inj h
    subst h
    exact hret _ _ dX7_soughtSong_23

abbrev w_X7_soughtOf (E : gs_E) (a_t a_t_row : Nat) (r_t_row : Nat → Int32) : va_W := [(a_t, .inr (7, [.ref a_t_row])), (a_t_row, .inl (E.2.1, 78, .inl r_t_row))]
abbrev rm_X7_soughtOf : Room := { frames := 1, cells := 0, slots := 0, locals := 21 }
def f_X7_soughtOf (x1 : Int32) (r_t_row : Nat → Int32) : Option (Int32) :=
  gs_b1 (f_X7_seeks x1 r_t_row) fun r1 =>
  if r1 = 0 then
    some (-1)
  else
    gs_gd (gs_in (1 + x1) 78) <|
    some ((r_t_row (1 + x1).toNatClampNeg) - (r_t_row (1 + x1).toNatClampNeg) / 7 * 7)
set_option maxHeartbeats 4000000 in
set_option maxRecDepth 100000 in
theorem c_X7_soughtOf (l : Launch) (E : gs_E) (a_t a_t_row : Nat) (r_t_row : Nat → Int32) (x1 : Int32) (rr : Int32) (h : f_X7_soughtOf x1 r_t_row = some rr) : gs_MR l yX7_soughtOf wsX7_soughtOf rm_X7_soughtOf [.ref a_t, .int x1] E (w_X7_soughtOf E a_t a_t_row r_t_row) (some (.int rr)) := by
  refine Met.ofW (cc := cX7_soughtOf) (maxL := 2) (ret := (some .int)) (by decide) rfl ?_
  intro p e s m args below meth c s₁ B hml hv
  obtain ⟨rfl, hP, hk, hD0⟩ := hv
  have X0 : gs_X wsX7_soughtOf cX7_soughtOf RX7 2 (some .int) p s m ([.ref a_t, .int x1] : List Value).toArray meth c := gs_X.of B hml
  obtain ⟨hx, hb, -, hown, hts, hr, hlk⟩ := id X0
  have hD := hD0
  have hret : ∀ (pc : Nat) (ls : Array Slot), decode cX7_soughtOf pc = .ok (.ireturn, 1) → W p l e rm_X7_soughtOf s m ([.ref a_t, .int x1] : List Value).toArray below meth c s.heap [] 0 0 (MQ below (gs_QR (some (.int rr))) ([.ref a_t, .int x1] : List Value).toArray s 0 0 (fun _ => False)) (F0 m pc ls [.int rr]) := fun pc ls hd => W.iret hx hb hr (fun t ht hW => ⟨rfl, ht⟩) (fun q hq => by cases hq) hd
  have hl := lv_entry ([.ref a_t, .int x1]) (n := 2) (Nat.le_of_ble_eq_true rfl)
  rw [lg_entry_eq]
  generalize (lg_sl ([.ref a_t, .int x1]) ++ List.replicate (2 - (lg_sl ([.ref a_t, .int x1])).length) Slot.unset).toArray = ls at hl ⊢
  have hl : lv_has ls 2 [(0, .ref a_t), (1, .int x1)] := hl
  unfold f_X7_soughtOf at h
  refine lv_aload_n hx hb dX7_soughtOf_0 rfl (lv_at hl 0 rfl) ?_
  refine lv_iload_n hx hb dX7_soughtOf_1 rfl (lv_at hl 1 rfl) ?_
  obtain ⟨r1, hz1, h⟩ := gs_b1_e h
  refine gs_backRi (va_runV (As := [.int x1]) (rest := []) ⟨hx, hb, hml, hown, hts⟩ (c_X7_seeks l E a_t a_t_row r_t_row x1 r1 hz1) (cwV 1 hts gX7_soughtOf_X7_seeks rfl rfl rfl (by decide +kernel) ⟨Nat.le_of_ble_eq_true rfl, Nat.le_of_ble_eq_true rfl⟩) (gs_preV (ci := 7) hk hP hD (is := [0, 1]) rfl rfl rfl rfl) rfl rfl hl.1 rfl (lv_room (Nat.le_of_ble_eq_true rfl)) dX7_soughtOf_2 ⟨Nat.zero_le _, Nat.zero_le _⟩) ?_
  refine lv_if_eq (tgt := 22) hx hb dX7_soughtOf_5 (by decide) (fun c2 => ?_) (fun c2 => ?_)
  · replace h := gs_ift c2 h
    refine lv_iconst (v := (-1)) hx hb dX7_soughtOf_22 (by decide) ?_
    have h := Option.some.inj h
    subst h
    exact hret _ _ dX7_soughtOf_23
  · replace h := gs_iff c2 h
    refine lv_aload_n hx hb dX7_soughtOf_8 rfl (lv_at hl 0 rfl) ?_
    refine va_get (D := E.1) (ci := 7) (v := .ref a_t_row) (C := RX7) (T := TX7) (N := 1) hx hb hts (fun _ h => (List.mem_cons_of_mem _ (List.mem_append_right _ h))) hown hk.1 hP 0 rfl rfl 0 (by decide) (hts (.fieldLink RX7 11 "GapSongs$State" "row" "[I") (List.mem_cons_of_mem _ (List.mem_append_left _ (List.mem_of_getElem? (i := 0) rfl)))) (fun _ h9 => h9) rfl dX7_soughtOf_9 ?_
    refine lv_iconst (v := 1) hx hb dX7_soughtOf_12 (by decide) ?_
    refine lv_iload_n hx hb dX7_soughtOf_13 rfl (lv_at hl 1 rfl) ?_
    refine lv_iadd hx hb dX7_soughtOf_14 ?_
    obtain ⟨g3, h⟩ := gs_gd_e h
    refine va_iald hx hb hk.1 hP 1 0 rfl rfl (gs_in_e g3) dX7_soughtOf_15 ?_
    refine lv_bipush (v := 7) hx hb dX7_soughtOf_16 (by decide) ?_
    refine lv_irem hx hb dX7_soughtOf_18 (by decide) ?_
    refine lv_goto (tgt := 23) hx hb dX7_soughtOf_19 (by decide) ?_
    have h := Option.some.inj h
    subst h
    exact hret _ _ dX7_soughtOf_23

abbrev w_X7_setSought (E : gs_E) (a_t a_t_row : Nat) (r_t_row : Nat → Int32) : va_W := [(a_t, .inr (7, [.ref a_t_row])), (a_t_row, .inl (E.2.1, 78, .inl r_t_row))]
abbrev rm_X7_setSought : Room := { frames := 0, cells := 0, slots := 0, locals := 0 }
def f_X7_setSought (x1 : Int32) (x2 : Int32) (x3 : Int32) (r_t_row : Nat → Int32) : Option ((Nat → Int32)) :=
  gs_gd (gs_in (1 + x1) 78) <|
  some (upd r_t_row (1 + x1).toNatClampNeg ((x2 * 7) + x3))
set_option maxHeartbeats 4000000 in
set_option maxRecDepth 100000 in
theorem c_X7_setSought (l : Launch) (E : gs_E) (a_t a_t_row : Nat) (r_t_row : Nat → Int32) (x1 : Int32) (x2 : Int32) (x3 : Int32) (o_t_row : Nat → Int32) (h : f_X7_setSought x1 x2 x3 r_t_row = some o_t_row) : gs_MW l yX7_setSought wsX7_setSought rm_X7_setSought [.ref a_t, .int x1, .int x2, .int x3] E (w_X7_setSought E a_t a_t_row r_t_row) (w_X7_setSought E a_t a_t_row o_t_row) none := by
  refine Met.ofW (cc := cX7_setSought) (maxL := 4) (ret := none) (by decide) rfl ?_
  intro p e s m args below meth c s₁ B hml hv
  obtain ⟨rfl, hP, hk, hD0⟩ := hv
  have X0 : gs_X wsX7_setSought cX7_setSought RX7 4 none p s m ([.ref a_t, .int x1, .int x2, .int x3] : List Value).toArray meth c := gs_X.of B hml
  obtain ⟨hx, hb, -, hown, hts, hr, hlk⟩ := id X0
  have hD := (gs_D_self hD0)
  generalize hAe : gs_w (w_X7_setSought E a_t a_t_row r_t_row) = A at hD ⊢
  have hS : va_S A s.heap s.heap [] := va_S.rf
  have hret : ∀ (H : Heap) (locs : List Loc) (pc : Nat) (ls : Array Slot), va_P E.1 vwCl (w_X7_setSought E a_t a_t_row o_t_row) H → va_S A s.heap H locs → decode cX7_setSought pc = .ok (.return_, 1) → W p l e rm_X7_setSought s m ([.ref a_t, .int x1, .int x2, .int x3] : List Value).toArray below meth c H locs 0 0 (MQ below (gs_QWA E A (w_X7_setSought E a_t a_t_row o_t_row) none) ([.ref a_t, .int x1, .int x2, .int x3] : List Value).toArray s 0 0 A) (F0 m pc ls []) := fun H locs pc ls hP hS hd => W.vret hx hb hr (fun t ht hW => ⟨rfl, by rw [ht]; exact hP, hS.F ht⟩) hS.2.2 hd
  have hl := lv_entry ([.ref a_t, .int x1, .int x2, .int x3]) (n := 4) (Nat.le_of_ble_eq_true rfl)
  rw [lg_entry_eq]
  generalize (lg_sl ([.ref a_t, .int x1, .int x2, .int x3]) ++ List.replicate (4 - (lg_sl ([.ref a_t, .int x1, .int x2, .int x3])).length) Slot.unset).toArray = ls at hl ⊢
  have hl : lv_has ls 4 [(0, .ref a_t), (1, .int x1), (2, .int x2), (3, .int x3)] := hl
  unfold f_X7_setSought at h
  refine lv_aload_n hx hb dX7_setSought_0 rfl (lv_at hl 0 rfl) ?_
  refine va_get (D := E.1) (ci := 7) (v := .ref a_t_row) (C := RX7) (T := TX7) (N := 1) hx hb hts (fun _ h => (List.mem_cons_of_mem _ (List.mem_append_right _ h))) hown hk.1 hP 0 rfl rfl 0 (by decide) (hts (.fieldLink RX7 11 "GapSongs$State" "row" "[I") (List.mem_cons_of_mem _ (List.mem_append_left _ (List.mem_of_getElem? (i := 0) rfl)))) (fun _ h9 => h9) rfl dX7_setSought_1 ?_
  refine lv_iconst (v := 1) hx hb dX7_setSought_4 (by decide) ?_
  refine lv_iload_n hx hb dX7_setSought_5 rfl (lv_at hl 1 rfl) ?_
  refine lv_iadd hx hb dX7_setSought_6 ?_
  refine lv_iload_n hx hb dX7_setSought_7 rfl (lv_at hl 2 rfl) ?_
  refine lv_bipush (v := 7) hx hb dX7_setSought_8 (by decide) ?_
  refine lv_imul hx hb dX7_setSought_10 ?_
  refine lv_iload_n hx hb dX7_setSought_11 rfl (lv_at hl 3 rfl) ?_
  refine lv_iadd hx hb dX7_setSought_12 ?_
  obtain ⟨g1, h⟩ := gs_gd_e h
  refine va_iast hx hb hk.1 hP hD hS 1 0 rfl rfl (gs_in_e g1) dX7_setSought_13 (fun H locs hP hD hS => ?_)
  have hP : va_P E.1 vwCl (w_X7_setSought E a_t a_t_row (upd r_t_row (1 + x1).toNatClampNeg ((x2 * 7) + x3))) H := hP
  have hD : va_D A (w_X7_setSought E a_t a_t_row (upd r_t_row (1 + x1).toNatClampNeg ((x2 * 7) + x3))) := hD
  have h := Option.some.inj h
  subst h
  exact hret _ _ _ _ hP hS dX7_setSought_14

abbrev w_X7_seekNothing (E : gs_E) (a_t a_t_row : Nat) (r_t_row : Nat → Int32) : va_W := [(a_t, .inr (7, [.ref a_t_row])), (a_t_row, .inl (E.2.1, 78, .inl r_t_row))]
abbrev rm_X7_seekNothing : Room := { frames := 0, cells := 0, slots := 0, locals := 0 }
def f_X7_seekNothing (x1 : Int32) (r_t_row : Nat → Int32) : Option ((Nat → Int32)) :=
  gs_gd (gs_in (1 + x1) 78) <|
  some (upd r_t_row (1 + x1).toNatClampNeg (-1))
set_option maxHeartbeats 4000000 in
set_option maxRecDepth 100000 in
theorem c_X7_seekNothing (l : Launch) (E : gs_E) (a_t a_t_row : Nat) (r_t_row : Nat → Int32) (x1 : Int32) (o_t_row : Nat → Int32) (h : f_X7_seekNothing x1 r_t_row = some o_t_row) : gs_MW l yX7_seekNothing wsX7_seekNothing rm_X7_seekNothing [.ref a_t, .int x1] E (w_X7_seekNothing E a_t a_t_row r_t_row) (w_X7_seekNothing E a_t a_t_row o_t_row) none := by
  refine Met.ofW (cc := cX7_seekNothing) (maxL := 2) (ret := none) (by decide) rfl ?_
  intro p e s m args below meth c s₁ B hml hv
  obtain ⟨rfl, hP, hk, hD0⟩ := hv
  have X0 : gs_X wsX7_seekNothing cX7_seekNothing RX7 2 none p s m ([.ref a_t, .int x1] : List Value).toArray meth c := gs_X.of B hml
  obtain ⟨hx, hb, -, hown, hts, hr, hlk⟩ := id X0
  have hD := (gs_D_self hD0)
  generalize hAe : gs_w (w_X7_seekNothing E a_t a_t_row r_t_row) = A at hD ⊢
  have hS : va_S A s.heap s.heap [] := va_S.rf
  have hret : ∀ (H : Heap) (locs : List Loc) (pc : Nat) (ls : Array Slot), va_P E.1 vwCl (w_X7_seekNothing E a_t a_t_row o_t_row) H → va_S A s.heap H locs → decode cX7_seekNothing pc = .ok (.return_, 1) → W p l e rm_X7_seekNothing s m ([.ref a_t, .int x1] : List Value).toArray below meth c H locs 0 0 (MQ below (gs_QWA E A (w_X7_seekNothing E a_t a_t_row o_t_row) none) ([.ref a_t, .int x1] : List Value).toArray s 0 0 A) (F0 m pc ls []) := fun H locs pc ls hP hS hd => W.vret hx hb hr (fun t ht hW => ⟨rfl, by rw [ht]; exact hP, hS.F ht⟩) hS.2.2 hd
  have hl := lv_entry ([.ref a_t, .int x1]) (n := 2) (Nat.le_of_ble_eq_true rfl)
  rw [lg_entry_eq]
  generalize (lg_sl ([.ref a_t, .int x1]) ++ List.replicate (2 - (lg_sl ([.ref a_t, .int x1])).length) Slot.unset).toArray = ls at hl ⊢
  have hl : lv_has ls 2 [(0, .ref a_t), (1, .int x1)] := hl
  unfold f_X7_seekNothing at h
  refine lv_aload_n hx hb dX7_seekNothing_0 rfl (lv_at hl 0 rfl) ?_
  refine va_get (D := E.1) (ci := 7) (v := .ref a_t_row) (C := RX7) (T := TX7) (N := 1) hx hb hts (fun _ h => (List.mem_cons_of_mem _ (List.mem_append_right _ h))) hown hk.1 hP 0 rfl rfl 0 (by decide) (hts (.fieldLink RX7 11 "GapSongs$State" "row" "[I") (List.mem_cons_of_mem _ (List.mem_append_left _ (List.mem_of_getElem? (i := 0) rfl)))) (fun _ h9 => h9) rfl dX7_seekNothing_1 ?_
  refine lv_iconst (v := 1) hx hb dX7_seekNothing_4 (by decide) ?_
  refine lv_iload_n hx hb dX7_seekNothing_5 rfl (lv_at hl 1 rfl) ?_
  refine lv_iadd hx hb dX7_seekNothing_6 ?_
  refine lv_iconst (v := (-1)) hx hb dX7_seekNothing_7 (by decide) ?_
  obtain ⟨g1, h⟩ := gs_gd_e h
  refine va_iast hx hb hk.1 hP hD hS 1 0 rfl rfl (gs_in_e g1) dX7_seekNothing_8 (fun H locs hP hD hS => ?_)
  have hP : va_P E.1 vwCl (w_X7_seekNothing E a_t a_t_row (upd r_t_row (1 + x1).toNatClampNeg (-1))) H := hP
  have hD : va_D A (w_X7_seekNothing E a_t a_t_row (upd r_t_row (1 + x1).toNatClampNeg (-1))) := hD
  have h := Option.some.inj h
  subst h
  exact hret _ _ _ _ hP hS dX7_seekNothing_9

abbrev w_X7_copyFrom (E : gs_E) (a_t a_t_row a_p1 a_p1_row : Nat) (r_t_row : Nat → Int32) (r_p1_row : Nat → Int32) : va_W := [(a_t, .inr (7, [.ref a_t_row])), (a_t_row, .inl (E.2.1, 78, .inl r_t_row)), (a_p1, .inr (7, [.ref a_p1_row])), (a_p1_row, .inl (E.2.1, 78, .inl r_p1_row))]
abbrev rm_X7_copyFrom : Room := { frames := 1, cells := 0, slots := 0, locals := 40 }
def f_X7_copyFrom (r_t_row : Nat → Int32) (r_p1_row : Nat → Int32) : Option ((Nat → Int32)) :=
  gs_gd (gs_cp 0 0 78 78 78) <|
  some (va_cpy r_p1_row r_t_row (0 : Int32).toNatClampNeg (0 : Int32).toNatClampNeg (78 : Int32).toNatClampNeg)
set_option maxHeartbeats 4000000 in
set_option maxRecDepth 100000 in
theorem c_X7_copyFrom (l : Launch) (E : gs_E) (a_t a_t_row a_p1 a_p1_row : Nat) (r_t_row : Nat → Int32) (r_p1_row : Nat → Int32) (o_t_row : Nat → Int32) (h : f_X7_copyFrom r_t_row r_p1_row = some o_t_row) : gs_MW l yX7_copyFrom wsX7_copyFrom rm_X7_copyFrom [.ref a_t, .ref a_p1] E (w_X7_copyFrom E a_t a_t_row a_p1 a_p1_row r_t_row r_p1_row) (w_X7_copyFrom E a_t a_t_row a_p1 a_p1_row o_t_row r_p1_row) none := by
  refine Met.ofW (cc := cX7_copyFrom) (maxL := 2) (ret := none) (by decide) rfl ?_
  intro p e s m args below meth c s₁ B hml hv
  obtain ⟨rfl, hP, hk, hD0⟩ := hv
  have X0 : gs_X wsX7_copyFrom cX7_copyFrom RX7 2 none p s m ([.ref a_t, .ref a_p1] : List Value).toArray meth c := gs_X.of B hml
  obtain ⟨hx, hb, -, hown, hts, hr, hlk⟩ := id X0
  have hD := (gs_D_self hD0)
  generalize hAe : gs_w (w_X7_copyFrom E a_t a_t_row a_p1 a_p1_row r_t_row r_p1_row) = A at hD ⊢
  have hS : va_S A s.heap s.heap [] := va_S.rf
  have hret : ∀ (H : Heap) (locs : List Loc) (pc : Nat) (ls : Array Slot), va_P E.1 vwCl (w_X7_copyFrom E a_t a_t_row a_p1 a_p1_row o_t_row r_p1_row) H → va_S A s.heap H locs → decode cX7_copyFrom pc = .ok (.return_, 1) → W p l e rm_X7_copyFrom s m ([.ref a_t, .ref a_p1] : List Value).toArray below meth c H locs 0 0 (MQ below (gs_QWA E A (w_X7_copyFrom E a_t a_t_row a_p1 a_p1_row o_t_row r_p1_row) none) ([.ref a_t, .ref a_p1] : List Value).toArray s 0 0 A) (F0 m pc ls []) := fun H locs pc ls hP hS hd => W.vret hx hb hr (fun t ht hW => ⟨rfl, by rw [ht]; exact hP, hS.F ht⟩) hS.2.2 hd
  have hl := lv_entry ([.ref a_t, .ref a_p1]) (n := 2) (Nat.le_of_ble_eq_true rfl)
  rw [lg_entry_eq]
  generalize (lg_sl ([.ref a_t, .ref a_p1]) ++ List.replicate (2 - (lg_sl ([.ref a_t, .ref a_p1])).length) Slot.unset).toArray = ls at hl ⊢
  have hl : lv_has ls 2 [(0, .ref a_t), (1, .ref a_p1)] := hl
  unfold f_X7_copyFrom at h
  refine lv_aload_n hx hb dX7_copyFrom_0 rfl (lv_at hl 1 rfl) ?_
  refine va_get (D := E.1) (ci := 7) (v := .ref a_p1_row) (C := RX7) (T := TX7) (N := 1) hx hb hts (fun _ h => (List.mem_cons_of_mem _ (List.mem_append_right _ h))) hown hk.1 hP 2 rfl rfl 0 (by decide) (hts (.fieldLink RX7 11 "GapSongs$State" "row" "[I") (List.mem_cons_of_mem _ (List.mem_append_left _ (List.mem_of_getElem? (i := 0) rfl)))) (fun _ h9 => h9) rfl dX7_copyFrom_1 ?_
  refine lv_iconst (v := 0) hx hb dX7_copyFrom_4 (by decide) ?_
  refine lv_aload_n hx hb dX7_copyFrom_5 rfl (lv_at hl 0 rfl) ?_
  refine va_get (D := E.1) (ci := 7) (v := .ref a_t_row) (C := RX7) (T := TX7) (N := 1) hx hb hts (fun _ h => (List.mem_cons_of_mem _ (List.mem_append_right _ h))) hown hk.1 hP 0 rfl rfl 0 (by decide) (hts (.fieldLink RX7 11 "GapSongs$State" "row" "[I") (List.mem_cons_of_mem _ (List.mem_append_left _ (List.mem_of_getElem? (i := 0) rfl)))) (fun _ h9 => h9) rfl dX7_copyFrom_6 ?_
  refine lv_iconst (v := 0) hx hb dX7_copyFrom_9 (by decide) ?_
  refine lv_bipush (v := 78) hx hb dX7_copyFrom_10 (by decide) ?_
  obtain ⟨g1, h⟩ := gs_gd_e h
  obtain ⟨g1a, g1b, g1c, g1d, g1e⟩ := gs_cp_e g1
  refine va_copyi hx hb (by rw [hml]; exact hl.1.symm) hown (hts (.methodLink RX7 24 arraycopyName) (List.mem_cons_of_mem _ (List.mem_append_left _ (List.mem_of_getElem? (i := 1) rfl)))) (hts (.native arraycopyName) (List.mem_cons_of_mem _ (List.mem_append_left _ (List.mem_of_getElem? (i := 2) rfl)))) (hts (.static arraycopyName) (List.mem_cons_of_mem _ (List.mem_append_left _ (List.mem_of_getElem? (i := 3) rfl)))) (hts (.initialized "java/lang/System") (List.mem_cons_of_mem _ (List.mem_append_left _ (List.mem_of_getElem? (i := 4) rfl)))) hk.1 hP hD hS 3 1 0 0 rfl rfl rfl rfl rfl g1a g1b g1c g1d g1e (fun _ _ => rfl) (Nat.le_of_ble_eq_true rfl) (Nat.le_of_ble_eq_true rfl) dX7_copyFrom_12 (fun H locs hP hD hS => ?_)
  have hP : va_P E.1 vwCl (w_X7_copyFrom E a_t a_t_row a_p1 a_p1_row (va_cpy r_p1_row r_t_row (0 : Int32).toNatClampNeg (0 : Int32).toNatClampNeg (78 : Int32).toNatClampNeg) r_p1_row) H := hP
  have hD : va_D A (w_X7_copyFrom E a_t a_t_row a_p1 a_p1_row (va_cpy r_p1_row r_t_row (0 : Int32).toNatClampNeg (0 : Int32).toNatClampNeg (78 : Int32).toNatClampNeg) r_p1_row) := hD
  have h := Option.some.inj h
  subst h
  exact hret _ _ _ _ hP hS dX7_copyFrom_15
