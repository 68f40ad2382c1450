theorem dX12_thrown_0 : decode cX12_thrown 0 = .ok (.aload_n 0, 1) := by decide +kernel
theorem dX12_thrown_1 : decode cX12_thrown 1 = .ok (.getfield 102, 3) := by decide +kernel
theorem dX12_thrown_4 : decode cX12_thrown 4 = .ok (.ireturn, 1) := by decide +kernel
abbrev w_X12_thrown (E : gs_E) (a_t a_t_songLong a_t_firstNote a_t_wit a_t_code a_t_tape a_t_refused a_t_newSongLong a_t_newFirstNote a_t_newWit a_t_newRow a_t_readCode a_t_waits a_t_tested a_t_isTold a_t_rows a_t_ahead a_t_told a_t_pile a_t_common a_t_mostOf a_t_likes a_t_heard a_t_soon a_t_soonAll a_t_imageRow a_t_imageAhead a_t_imageHears : Nat) (v_t_thrown : Int32) (v_t_songs : Int32) (v_t_people : Int32) (v_t_forgetsAt : Int32) (v_t_fillsAt : Int32) (v_t_taped : Int32) (v_t_faultKind : Int32) (v_t_faultPlace : Int32) (v_t_long1 : Int32) (v_t_next0 : Int32) (v_t_sort : Int32) (v_t_place : Int32) (v_t_long0 : Int32) (v_t_value : Int32) (v_t_sign : Int32) (v_t_word : Int64) (v_t_newSongs : Int32) (v_t_newPeople : Int32) (v_t_newForgetsAt : Int32) (v_t_newFillsAt : Int32) (v_t_top : Int32) (v_t_firstValue : Int32) (v_t_lastValue : Int32) (v_t_waiting : Int32) (v_t_depth : Int32) (v_t_acts : Int32) (v_t_isWinter : Int32) (v_t_learntNow : Int32) (v_t_forgottenNow : Int32) (v_t_heardMany : Int32) (v_t_its0 : Int32) (v_t_hasImage : Int32) (v_t_imageActs : Int32) (v_t_imageHeard : Int32) : va_W := [(a_t, .inr (12, [.int v_t_thrown, .int v_t_songs, .int v_t_people, .int v_t_forgetsAt, .int v_t_fillsAt, .ref a_t_songLong, .ref a_t_firstNote, .ref a_t_wit, .ref a_t_code, .ref a_t_tape, .int v_t_taped, .int v_t_faultKind, .int v_t_faultPlace, .ref a_t_refused, .int v_t_long1, .int v_t_next0, .int v_t_sort, .int v_t_place, .int v_t_long0, .int v_t_value, .int v_t_sign, .long v_t_word, .int v_t_newSongs, .int v_t_newPeople, .int v_t_newForgetsAt, .int v_t_newFillsAt, .int v_t_top, .int v_t_firstValue, .int v_t_lastValue, .int v_t_waiting, .int v_t_depth, .ref a_t_newSongLong, .ref a_t_newFirstNote, .ref a_t_newWit, .ref a_t_newRow, .ref a_t_readCode, .ref a_t_waits, .ref a_t_tested, .ref a_t_isTold, .ref a_t_rows, .ref a_t_ahead, .int v_t_acts, .ref a_t_told, .ref a_t_pile, .int v_t_isWinter, .int v_t_learntNow, .int v_t_forgottenNow, .ref a_t_common, .ref a_t_mostOf, .ref a_t_likes, .int v_t_heardMany, .ref a_t_heard, .ref a_t_soon, .ref a_t_soonAll, .int v_t_its0, .int v_t_hasImage, .int v_t_imageActs, .int v_t_imageHeard, .ref a_t_imageRow, .ref a_t_imageAhead, .ref a_t_imageHears]))]
abbrev rm_X12_thrown : Room := { frames := 0, cells := 0, slots := 0, locals := 0 }
def f_X12_thrown (v_t_thrown : Int32) : Option (Int32) :=
  some v_t_thrown
set_option maxHeartbeats 4000000 in
set_option maxRecDepth 100000 in
theorem c_X12_thrown (l : Launch) (E : gs_E) (a_t a_t_songLong a_t_firstNote a_t_wit a_t_code a_t_tape a_t_refused a_t_newSongLong a_t_newFirstNote a_t_newWit a_t_newRow a_t_readCode a_t_waits a_t_tested a_t_isTold a_t_rows a_t_ahead a_t_told a_t_pile a_t_common a_t_mostOf a_t_likes a_t_heard a_t_soon a_t_soonAll a_t_imageRow a_t_imageAhead a_t_imageHears : Nat) (v_t_thrown : Int32) (v_t_songs : Int32) (v_t_people : Int32) (v_t_forgetsAt : Int32) (v_t_fillsAt : Int32) (v_t_taped : Int32) (v_t_faultKind : Int32) (v_t_faultPlace : Int32) (v_t_long1 : Int32) (v_t_next0 : Int32) (v_t_sort : Int32) (v_t_place : Int32) (v_t_long0 : Int32) (v_t_value : Int32) (v_t_sign : Int32) (v_t_word : Int64) (v_t_newSongs : Int32) (v_t_newPeople : Int32) (v_t_newForgetsAt : Int32) (v_t_newFillsAt : Int32) (v_t_top : Int32) (v_t_firstValue : Int32) (v_t_lastValue : Int32) (v_t_waiting : Int32) (v_t_depth : Int32) (v_t_acts : Int32) (v_t_isWinter : Int32) (v_t_learntNow : Int32) (v_t_forgottenNow : Int32) (v_t_heardMany : Int32) (v_t_its0 : Int32) (v_t_hasImage : Int32) (v_t_imageActs : Int32) (v_t_imageHeard : Int32) (rr : Int32) (h : f_X12_thrown v_t_thrown = some rr) : gs_MR l yX12_thrown wsX12_thrown rm_X12_thrown [.ref a_t] E (w_X12_thrown E a_t a_t_songLong a_t_firstNote a_t_wit a_t_code a_t_tape a_t_refused a_t_newSongLong a_t_newFirstNote a_t_newWit a_t_newRow a_t_readCode a_t_waits a_t_tested a_t_isTold a_t_rows a_t_ahead a_t_told a_t_pile a_t_common a_t_mostOf a_t_likes a_t_heard a_t_soon a_t_soonAll a_t_imageRow a_t_imageAhead a_t_imageHears v_t_thrown v_t_songs v_t_people v_t_forgetsAt v_t_fillsAt v_t_taped v_t_faultKind v_t_faultPlace v_t_long1 v_t_next0 v_t_sort v_t_place v_t_long0 v_t_value v_t_sign v_t_word v_t_newSongs v_t_newPeople v_t_newForgetsAt v_t_newFillsAt v_t_top v_t_firstValue v_t_lastValue v_t_waiting v_t_depth v_t_acts v_t_isWinter v_t_learntNow v_t_forgottenNow v_t_heardMany v_t_its0 v_t_hasImage v_t_imageActs v_t_imageHeard) (some (.int rr)) := by
  refine Met.ofW (cc := cX12_thrown) (maxL := 1) (ret := (some .int)) (by decide) rfl ?_
  intro p e s m args below meth c s₁ B hml hv
  obtain ⟨rfl, hP, hk, hD0⟩ := hv
  have X0 : gs_X wsX12_thrown cX12_thrown RX12 1 (some .int) p s m ([.ref a_t] : List Value).toArray meth c := gs_X.of B hml
  obtain ⟨hx, hb, -, hown, hts, hr, hlk⟩ := id X0
  have hD := hD0
  have hret : ∀ (pc : Nat) (ls : Array Slot), decode cX12_thrown pc = .ok (.ireturn, 1) → W p l e rm_X12_thrown s m ([.ref a_t] : List Value).toArray below meth c s.heap [] 0 0 (MQ below (gs_QR (some (.int rr))) ([.ref a_t] : List Value).toArray s 0 0 (fun _ => False)) (F0 m pc ls [.int rr]) := fun pc ls hd => W.iret hx hb hr (fun t ht hW => ⟨rfl, ht⟩) (fun q hq => by cases hq) hd
  have hl := lv_entry ([.ref a_t]) (n := 1) (Nat.le_of_ble_eq_true rfl)
  rw [lg_entry_eq]
  generalize (lg_sl ([.ref a_t]) ++ List.replicate (1 - (lg_sl ([.ref a_t])).length) Slot.unset).toArray = ls at hl ⊢
  have hl : lv_has ls 1 [(0, .ref a_t)] := hl
  unfold f_X12_thrown at h
  refine lv_aload_n hx hb dX12_thrown_0 rfl (lv_at hl 0 rfl) ?_
  refine va_get (D := E.1) (ci := 12) (v := .int v_t_thrown) (C := RX12) (T := TX12) (N := 61) hx hb hts (fun _ h => (List.mem_cons_of_mem _ (List.mem_append_right _ h))) hown hk.1 hP 0 rfl rfl 0 (by decide) (hts (.fieldLink RX12 102 "GapSongsModel" "thrown" "I") (List.mem_cons_of_mem _ (List.mem_append_left _ (List.mem_of_getElem? (i := 0) rfl)))) (fun _ h9 => h9) rfl dX12_thrown_1 ?_
  have h := Option.some.inj h
  subst h
  exact hret _ _ dX12_thrown_4

theorem dX12_right_0 : decode cX12_right 0 = .ok (.aload_n 0, 1) := by decide +kernel
theorem dX12_right_1 : decode cX12_right 1 = .ok (.getfield 102, 3) := by decide +kernel
theorem dX12_right_4 : decode cX12_right 4 = .ok (.ifCond .ne 12, 3) := by decide +kernel
theorem dX12_right_7 : decode cX12_right 7 = .ok (.iload_n 1, 1) := by decide +kernel
theorem dX12_right_8 : decode cX12_right 8 = .ok (.ifCond .ne 8, 3) := by decide +kernel
theorem dX12_right_11 : decode cX12_right 11 = .ok (.aload_n 0, 1) := by decide +kernel
theorem dX12_right_12 : decode cX12_right 12 = .ok (.iload_n 2, 1) := by decide +kernel
theorem dX12_right_13 : decode cX12_right 13 = .ok (.putfield 102, 3) := by decide +kernel
theorem dX12_right_16 : decode cX12_right 16 = .ok (.aload_n 0, 1) := by decide +kernel
theorem dX12_right_17 : decode cX12_right 17 = .ok (.getfield 102, 3) := by decide +kernel
theorem dX12_right_20 : decode cX12_right 20 = .ok (.ifCond .ne 7, 3) := by decide +kernel
theorem dX12_right_23 : decode cX12_right 23 = .ok (.iconst 1, 1) := by decide +kernel
theorem dX12_right_24 : decode cX12_right 24 = .ok (.goto 4, 3) := by decide +kernel
theorem dX12_right_27 : decode cX12_right 27 = .ok (.iconst 0, 1) := by decide +kernel
theorem dX12_right_28 : decode cX12_right 28 = .ok (.ireturn, 1) := by decide +kernel
abbrev w_X12_right (E : gs_E) (a_t a_t_songLong a_t_firstNote a_t_wit a_t_code a_t_tape a_t_refused a_t_newSongLong a_t_newFirstNote a_t_newWit a_t_newRow a_t_readCode a_t_waits a_t_tested a_t_isTold a_t_rows a_t_ahead a_t_told a_t_pile a_t_common a_t_mostOf a_t_likes a_t_heard a_t_soon a_t_soonAll a_t_imageRow a_t_imageAhead a_t_imageHears : Nat) (v_t_thrown : Int32) (v_t_songs : Int32) (v_t_people : Int32) (v_t_forgetsAt : Int32) (v_t_fillsAt : Int32) (v_t_taped : Int32) (v_t_faultKind : Int32) (v_t_faultPlace : Int32) (v_t_long1 : Int32) (v_t_next0 : Int32) (v_t_sort : Int32) (v_t_place : Int32) (v_t_long0 : Int32) (v_t_value : Int32) (v_t_sign : Int32) (v_t_word : Int64) (v_t_newSongs : Int32) (v_t_newPeople : Int32) (v_t_newForgetsAt : Int32) (v_t_newFillsAt : Int32) (v_t_top : Int32) (v_t_firstValue : Int32) (v_t_lastValue : Int32) (v_t_waiting : Int32) (v_t_depth : Int32) (v_t_acts : Int32) (v_t_isWinter : Int32) (v_t_learntNow : Int32) (v_t_forgottenNow : Int32) (v_t_heardMany : Int32) (v_t_its0 : Int32) (v_t_hasImage : Int32) (v_t_imageActs : Int32) (v_t_imageHeard : Int32) : va_W := [(a_t, .inr (12, [.int v_t_thrown, .int v_t_songs, .int v_t_people, .int v_t_forgetsAt, .int v_t_fillsAt, .ref a_t_songLong, .ref a_t_firstNote, .ref a_t_wit, .ref a_t_code, .ref a_t_tape, .int v_t_taped, .int v_t_faultKind, .int v_t_faultPlace, .ref a_t_refused, .int v_t_long1, .int v_t_next0, .int v_t_sort, .int v_t_place, .int v_t_long0, .int v_t_value, .int v_t_sign, .long v_t_word, .int v_t_newSongs, .int v_t_newPeople, .int v_t_newForgetsAt, .int v_t_newFillsAt, .int v_t_top, .int v_t_firstValue, .int v_t_lastValue, .int v_t_waiting, .int v_t_depth, .ref a_t_newSongLong, .ref a_t_newFirstNote, .ref a_t_newWit, .ref a_t_newRow, .ref a_t_readCode, .ref a_t_waits, .ref a_t_tested, .ref a_t_isTold, .ref a_t_rows, .ref a_t_ahead, .int v_t_acts, .ref a_t_told, .ref a_t_pile, .int v_t_isWinter, .int v_t_learntNow, .int v_t_forgottenNow, .ref a_t_common, .ref a_t_mostOf, .ref a_t_likes, .int v_t_heardMany, .ref a_t_heard, .ref a_t_soon, .ref a_t_soonAll, .int v_t_its0, .int v_t_hasImage, .int v_t_imageActs, .int v_t_imageHeard, .ref a_t_imageRow, .ref a_t_imageAhead, .ref a_t_imageHears]))]
abbrev rm_X12_right : Room := { frames := 0, cells := 0, slots := 0, locals := 0 }
def f_X12_right (x1 : Int32) (x2 : Int32) (v_t_thrown : Int32) : Option (Int32 × Int32) :=
  if v_t_thrown = 0 then
    if x1 = 0 then
      if x2 = 0 then
        some (1, x2)
      else
        some (0, x2)
    else
      if v_t_thrown = 0 then
        some (1, v_t_thrown)
      else
        some (0, v_t_thrown)
  else
    if v_t_thrown = 0 then
      some (1, v_t_thrown)
    else
      some (0, v_t_thrown)
set_option maxHeartbeats 4000000 in
set_option maxRecDepth 100000 in
theorem c_X12_right (l : Launch) (E : gs_E) (a_t a_t_songLong a_t_firstNote a_t_wit a_t_code a_t_tape a_t_refused a_t_newSongLong a_t_newFirstNote a_t_newWit a_t_newRow a_t_readCode a_t_waits a_t_tested a_t_isTold a_t_rows a_t_ahead a_t_told a_t_pile a_t_common a_t_mostOf a_t_likes a_t_heard a_t_soon a_t_soonAll a_t_imageRow a_t_imageAhead a_t_imageHears : Nat) (v_t_thrown : Int32) (v_t_songs : Int32) (v_t_people : Int32) (v_t_forgetsAt : Int32) (v_t_fillsAt : Int32) (v_t_taped : Int32) (v_t_faultKind : Int32) (v_t_faultPlace : Int32) (v_t_long1 : Int32) (v_t_next0 : Int32) (v_t_sort : Int32) (v_t_place : Int32) (v_t_long0 : Int32) (v_t_value : Int32) (v_t_sign : Int32) (v_t_word : Int64) (v_t_newSongs : Int32) (v_t_newPeople : Int32) (v_t_newForgetsAt : Int32) (v_t_newFillsAt : Int32) (v_t_top : Int32) (v_t_firstValue : Int32) (v_t_lastValue : Int32) (v_t_waiting : Int32) (v_t_depth : Int32) (v_t_acts : Int32) (v_t_isWinter : Int32) (v_t_learntNow : Int32) (v_t_forgottenNow : Int32) (v_t_heardMany : Int32) (v_t_its0 : Int32) (v_t_hasImage : Int32) (v_t_imageActs : Int32) (v_t_imageHeard : Int32) (x1 : Int32) (x2 : Int32) (rr : Int32) (o_t_thrown : Int32) (h : f_X12_right x1 x2 v_t_thrown = some (rr, o_t_thrown)) : gs_MW l yX12_right wsX12_right rm_X12_right [.ref a_t, .int x1, .int x2] E (w_X12_right E a_t a_t_songLong a_t_firstNote a_t_wit a_t_code a_t_tape a_t_refused a_t_newSongLong a_t_newFirstNote a_t_newWit a_t_newRow a_t_readCode a_t_waits a_t_tested a_t_isTold a_t_rows a_t_ahead a_t_told a_t_pile a_t_common a_t_mostOf a_t_likes a_t_heard a_t_soon a_t_soonAll a_t_imageRow a_t_imageAhead a_t_imageHears v_t_thrown v_t_songs v_t_people v_t_forgetsAt v_t_fillsAt v_t_taped v_t_faultKind v_t_faultPlace v_t_long1 v_t_next0 v_t_sort v_t_place v_t_long0 v_t_value v_t_sign v_t_word v_t_newSongs v_t_newPeople v_t_newForgetsAt v_t_newFillsAt v_t_top v_t_firstValue v_t_lastValue v_t_waiting v_t_depth v_t_acts v_t_isWinter v_t_learntNow v_t_forgottenNow v_t_heardMany v_t_its0 v_t_hasImage v_t_imageActs v_t_imageHeard) (w_X12_right E a_t a_t_songLong a_t_firstNote a_t_wit a_t_code a_t_tape a_t_refused a_t_newSongLong a_t_newFirstNote a_t_newWit a_t_newRow a_t_readCode a_t_waits a_t_tested a_t_isTold a_t_rows a_t_ahead a_t_told a_t_pile a_t_common a_t_mostOf a_t_likes a_t_heard a_t_soon a_t_soonAll a_t_imageRow a_t_imageAhead a_t_imageHears o_t_thrown v_t_songs v_t_people v_t_forgetsAt v_t_fillsAt v_t_taped v_t_faultKind v_t_faultPlace v_t_long1 v_t_next0 v_t_sort v_t_place v_t_long0 v_t_value v_t_sign v_t_word v_t_newSongs v_t_newPeople v_t_newForgetsAt v_t_newFillsAt v_t_top v_t_firstValue v_t_lastValue v_t_waiting v_t_depth v_t_acts v_t_isWinter v_t_learntNow v_t_forgottenNow v_t_heardMany v_t_its0 v_t_hasImage v_t_imageActs v_t_imageHeard) (some (.int rr)) := by
  refine Met.ofW (cc := cX12_right) (maxL := 3) (ret := (some .boolean)) (by decide) rfl ?_
  intro p e s m args below meth c s₁ B hml hv
  obtain ⟨rfl, hP, hk, hD0⟩ := hv
  have X0 : gs_X wsX12_right cX12_right RX12 3 (some .boolean) p s m ([.ref a_t, .int x1, .int x2] : List Value).toArray meth c := gs_X.of B hml
  obtain ⟨hx, hb, -, hown, hts, hr, hlk⟩ := id X0
  have hD := (gs_D_self hD0)
  generalize hAe : gs_w (w_X12_right E a_t a_t_songLong a_t_firstNote a_t_wit a_t_code a_t_tape a_t_refused a_t_newSongLong a_t_newFirstNote a_t_newWit a_t_newRow a_t_readCode a_t_waits a_t_tested a_t_isTold a_t_rows a_t_ahead a_t_told a_t_pile a_t_common a_t_mostOf a_t_likes a_t_heard a_t_soon a_t_soonAll a_t_imageRow a_t_imageAhead a_t_imageHears v_t_thrown v_t_songs v_t_people v_t_forgetsAt v_t_fillsAt v_t_taped v_t_faultKind v_t_faultPlace v_t_long1 v_t_next0 v_t_sort v_t_place v_t_long0 v_t_value v_t_sign v_t_word v_t_newSongs v_t_newPeople v_t_newForgetsAt v_t_newFillsAt v_t_top v_t_firstValue v_t_lastValue v_t_waiting v_t_depth v_t_acts v_t_isWinter v_t_learntNow v_t_forgottenNow v_t_heardMany v_t_its0 v_t_hasImage v_t_imageActs v_t_imageHeard) = A at hD ⊢
  have hS : va_S A s.heap s.heap [] := va_S.rf
  have hret : ∀ (H : Heap) (locs : List Loc) (pc : Nat) (ls : Array Slot), va_P E.1 vwCl (w_X12_right E a_t a_t_songLong a_t_firstNote a_t_wit a_t_code a_t_tape a_t_refused a_t_newSongLong a_t_newFirstNote a_t_newWit a_t_newRow a_t_readCode a_t_waits a_t_tested a_t_isTold a_t_rows a_t_ahead a_t_told a_t_pile a_t_common a_t_mostOf a_t_likes a_t_heard a_t_soon a_t_soonAll a_t_imageRow a_t_imageAhead a_t_imageHears o_t_thrown v_t_songs v_t_people v_t_forgetsAt v_t_fillsAt v_t_taped v_t_faultKind v_t_faultPlace v_t_long1 v_t_next0 v_t_sort v_t_place v_t_long0 v_t_value v_t_sign v_t_word v_t_newSongs v_t_newPeople v_t_newForgetsAt v_t_newFillsAt v_t_top v_t_firstValue v_t_lastValue v_t_waiting v_t_depth v_t_acts v_t_isWinter v_t_learntNow v_t_forgottenNow v_t_heardMany v_t_its0 v_t_hasImage v_t_imageActs v_t_imageHeard) H → va_S A s.heap H locs → narrow .boolean (.int rr) = .int rr → decode cX12_right pc = .ok (.ireturn, 1) → W p l e rm_X12_right s m ([.ref a_t, .int x1, .int x2] : List Value).toArray below meth c H locs 0 0 (MQ below (gs_QWA E A (w_X12_right E a_t a_t_songLong a_t_firstNote a_t_wit a_t_code a_t_tape a_t_refused a_t_newSongLong a_t_newFirstNote a_t_newWit a_t_newRow a_t_readCode a_t_waits a_t_tested a_t_isTold a_t_rows a_t_ahead a_t_told a_t_pile a_t_common a_t_mostOf a_t_likes a_t_heard a_t_soon a_t_soonAll a_t_imageRow a_t_imageAhead a_t_imageHears o_t_thrown v_t_songs v_t_people v_t_forgetsAt v_t_fillsAt v_t_taped v_t_faultKind v_t_faultPlace v_t_long1 v_t_next0 v_t_sort v_t_place v_t_long0 v_t_value v_t_sign v_t_word v_t_newSongs v_t_newPeople v_t_newForgetsAt v_t_newFillsAt v_t_top v_t_firstValue v_t_lastValue v_t_waiting v_t_depth v_t_acts v_t_isWinter v_t_learntNow v_t_forgottenNow v_t_heardMany v_t_its0 v_t_hasImage v_t_imageActs v_t_imageHeard) (some (.int rr))) ([.ref a_t, .int x1, .int x2] : List Value).toArray s 0 0 A) (F0 m pc ls [.int rr]) := fun H locs pc ls hP hS hnar hd => W.zret hx hb hr hnar (fun t ht hW => ⟨rfl, by rw [ht]; exact hP, hS.F ht⟩) hS.2.2 hd
  have hl := lv_entry ([.ref a_t, .int x1, .int x2]) (n := 3) (Nat.le_of_ble_eq_true rfl)
  rw [lg_entry_eq]
  generalize (lg_sl ([.ref a_t, .int x1, .int x2]) ++ List.replicate (3 - (lg_sl ([.ref a_t, .int x1, .int x2])).length) Slot.unset).toArray = ls at hl ⊢
  have hl : lv_has ls 3 [(0, .ref a_t), (1, .int x1), (2, .int x2)] := hl
  unfold f_X12_right at h
  refine lv_aload_n hx hb dX12_right_0 rfl (lv_at hl 0 rfl) ?_
  refine va_get (D := E.1) (ci := 12) (v := .int v_t_thrown) (C := RX12) (T := TX12) (N := 61) hx hb hts (fun _ h => (List.mem_cons_of_mem _ (List.mem_append_right _ h))) hown hk.1 hP 0 rfl rfl 0 (by decide) (hts (.fieldLink RX12 102 "GapSongsModel" "thrown" "I") (List.mem_cons_of_mem _ (List.mem_append_left _ (List.mem_of_getElem? (i := 0) rfl)))) (fun _ h9 => h9) rfl dX12_right_1 ?_
  refine lv_if_ne (tgt := 16) hx hb dX12_right_4 (by decide) (fun c1 => ?_) (fun c1 => ?_)
  · replace h := gs_iff c1 h
    refine lv_aload_n hx hb dX12_right_16 rfl (lv_at hl 0 rfl) ?_
    refine va_get (D := E.1) (ci := 12) (v := .int v_t_thrown) (C := RX12) (T := TX12) (N := 61) hx hb hts (fun _ h => (List.mem_cons_of_mem _ (List.mem_append_right _ h))) hown hk.1 hP 0 rfl rfl 0 (by decide) (hts (.fieldLink RX12 102 "GapSongsModel" "thrown" "I") (List.mem_cons_of_mem _ (List.mem_append_left _ (List.mem_of_getElem? (i := 0) rfl)))) (fun _ h9 => h9) rfl dX12_right_17 ?_
    refine lv_if_ne (tgt := 27) hx hb dX12_right_20 (by decide) (fun c2 => ?_) (fun c2 => ?_)
    · replace h := gs_iff c2 h
      refine lv_iconst (v := 0) hx hb dX12_right_27 (by decide) ?_
      have h := Option.some.inj h
      obtain ⟨w0, h⟩ := Prod.mk.inj h
      subst h
      subst w0
      exact hret _ _ _ _ hP hS rfl dX12_right_28
    · replace h := gs_ift c2 h
      refine lv_iconst (v := 1) hx hb dX12_right_23 (by decide) ?_
      refine lv_goto (tgt := 28) hx hb dX12_right_24 (by decide) ?_
      have h := Option.some.inj h
      obtain ⟨w0, h⟩ := Prod.mk.inj h
      subst h
      subst w0
      exact hret _ _ _ _ hP hS rfl dX12_right_28
  · replace h := gs_ift c1 h
    refine lv_iload_n hx hb dX12_right_7 rfl (lv_at hl 1 rfl) ?_
    refine lv_if_ne (tgt := 16) hx hb dX12_right_8 (by decide) (fun c3 => ?_) (fun c3 => ?_)
    · replace h := gs_iff c3 h
      refine lv_aload_n hx hb dX12_right_16 rfl (lv_at hl 0 rfl) ?_
      refine va_get (D := E.1) (ci := 12) (v := .int v_t_thrown) (C := RX12) (T := TX12) (N := 61) hx hb hts (fun _ h => (List.mem_cons_of_mem _ (List.mem_append_right _ h))) hown hk.1 hP 0 rfl rfl 0 (by decide) (hts (.fieldLink RX12 102 "GapSongsModel" "thrown" "I") (List.mem_cons_of_mem _ (List.mem_append_left _ (List.mem_of_getElem? (i := 0) rfl)))) (fun _ h9 => h9) rfl dX12_right_17 ?_
      refine lv_if_ne (tgt := 27) hx hb dX12_right_20 (by decide) (fun c4 => ?_) (fun c4 => ?_)
      · replace h := gs_iff c4 h
        refine lv_iconst (v := 0) hx hb dX12_right_27 (by decide) ?_
        have h := Option.some.inj h
        obtain ⟨w0, h⟩ := Prod.mk.inj h
        subst h
        subst w0
        exact hret _ _ _ _ hP hS rfl dX12_right_28
      · replace h := gs_ift c4 h
        refine lv_iconst (v := 1) hx hb dX12_right_23 (by decide) ?_
        refine lv_goto (tgt := 28) hx hb dX12_right_24 (by decide) ?_
        have h := Option.some.inj h
        obtain ⟨w0, h⟩ := Prod.mk.inj h
        subst h
        subst w0
        exact hret _ _ _ _ hP hS rfl dX12_right_28
    · replace h := gs_ift c3 h
      refine lv_aload_n hx hb dX12_right_11 rfl (lv_at hl 0 rfl) ?_
      refine lv_iload_n hx hb dX12_right_12 rfl (lv_at hl 2 rfl) ?_
      refine va_put (D := E.1) (ci := 12) (v := .int x2) (ty := .int) (C := RX12) (T := TX12) (N := 61) hx hb hts (fun _ h => (List.mem_cons_of_mem _ (List.mem_append_right _ h))) tyX12 tyX12_ok nmX12 hown hk.1 hP hD hS 0 rfl rfl 0 (by decide) (hts (.fieldLink RX12 102 "GapSongsModel" "thrown" "I") (List.mem_cons_of_mem _ (List.mem_append_left _ (List.mem_of_getElem? (i := 0) rfl)))) (fun _ h9 => h9) rfl (by decide +kernel) rfl rfl (Nat.le_of_ble_eq_true rfl) dX12_right_13 (fun H locs hP hD hS => ?_)
      have hP : va_P E.1 vwCl (w_X12_right E a_t a_t_songLong a_t_firstNote a_t_wit a_t_code a_t_tape a_t_refused a_t_newSongLong a_t_newFirstNote a_t_newWit a_t_newRow a_t_readCode a_t_waits a_t_tested a_t_isTold a_t_rows a_t_ahead a_t_told a_t_pile a_t_common a_t_mostOf a_t_likes a_t_heard a_t_soon a_t_soonAll a_t_imageRow a_t_imageAhead a_t_imageHears x2 v_t_songs v_t_people v_t_forgetsAt v_t_fillsAt v_t_taped v_t_faultKind v_t_faultPlace v_t_long1 v_t_next0 v_t_sort v_t_place v_t_long0 v_t_value v_t_sign v_t_word v_t_newSongs v_t_newPeople v_t_newForgetsAt v_t_newFillsAt v_t_top v_t_firstValue v_t_lastValue v_t_waiting v_t_depth v_t_acts v_t_isWinter v_t_learntNow v_t_forgottenNow v_t_heardMany v_t_its0 v_t_hasImage v_t_imageActs v_t_imageHeard) H := hP
      have hD : va_D A (w_X12_right E a_t a_t_songLong a_t_firstNote a_t_wit a_t_code a_t_tape a_t_refused a_t_newSongLong a_t_newFirstNote a_t_newWit a_t_newRow a_t_readCode a_t_waits a_t_tested a_t_isTold a_t_rows a_t_ahead a_t_told a_t_pile a_t_common a_t_mostOf a_t_likes a_t_heard a_t_soon a_t_soonAll a_t_imageRow a_t_imageAhead a_t_imageHears x2 v_t_songs v_t_people v_t_forgetsAt v_t_fillsAt v_t_taped v_t_faultKind v_t_faultPlace v_t_long1 v_t_next0 v_t_sort v_t_place v_t_long0 v_t_value v_t_sign v_t_word v_t_newSongs v_t_newPeople v_t_newForgetsAt v_t_newFillsAt v_t_top v_t_firstValue v_t_lastValue v_t_waiting v_t_depth v_t_acts v_t_isWinter v_t_learntNow v_t_forgottenNow v_t_heardMany v_t_its0 v_t_hasImage v_t_imageActs v_t_imageHeard) := hD
      refine lv_aload_n hx hb dX12_right_16 rfl (lv_at hl 0 rfl) ?_
      refine va_get (D := E.1) (ci := 12) (v := .int x2) (C := RX12) (T := TX12) (N := 61) hx hb hts (fun _ h => (List.mem_cons_of_mem _ (List.mem_append_right _ h))) hown hk.1 hP 0 rfl rfl 0 (by decide) (hts (.fieldLink RX12 102 "GapSongsModel" "thrown" "I") (List.mem_cons_of_mem _ (List.mem_append_left _ (List.mem_of_getElem? (i := 0) rfl)))) (fun _ h9 => h9) rfl dX12_right_17 ?_
      refine lv_if_ne (tgt := 27) hx hb dX12_right_20 (by decide) (fun c5 => ?_) (fun c5 => ?_)
      · replace h := gs_iff c5 h
        refine lv_iconst (v := 0) hx hb dX12_right_27 (by decide) ?_
        have h := Option.some.inj h
        obtain ⟨w0, h⟩ := Prod.mk.inj h
        subst h
        subst w0
        exact hret _ _ _ _ hP hS rfl dX12_right_28
      · replace h := gs_ift c5 h
        refine lv_iconst (v := 1) hx hb dX12_right_23 (by decide) ?_
        refine lv_goto (tgt := 28) hx hb dX12_right_24 (by decide) ?_
        have h := Option.some.inj h
        obtain ⟨w0, h⟩ := Prod.mk.inj h
        subst h
        subst w0
        exact hret _ _ _ _ hP hS rfl dX12_right_28

theorem dX12_within_0 : decode cX12_within 0 = .ok (.iload_n 0, 1) := by decide +kernel
theorem dX12_within_1 : decode cX12_within 1 = .ok (.iload_n 1, 1) := by decide +kernel
theorem dX12_within_2 : decode cX12_within 2 = .ok (.if_icmp .lt 12, 3) := by decide +kernel
theorem dX12_within_5 : decode cX12_within 5 = .ok (.iload_n 0, 1) := by decide +kernel
theorem dX12_within_6 : decode cX12_within 6 = .ok (.iload_n 2, 1) := by decide +kernel
theorem dX12_within_7 : decode cX12_within 7 = .ok (.if_icmp .gt 7, 3) := by decide +kernel
theorem dX12_within_10 : decode cX12_within 10 = .ok (.iconst 1, 1) := by decide +kernel
theorem dX12_within_11 : decode cX12_within 11 = .ok (.goto 4, 3) := by decide +kernel
theorem dX12_within_14 : decode cX12_within 14 = .ok (.iconst 0, 1) := by decide +kernel
theorem dX12_within_15 : decode cX12_within 15 = .ok (.ireturn, 1) := by decide +kernel
abbrev w_X12_within (E : gs_E) : va_W := []
abbrev rm_X12_within : Room := { frames := 0, cells := 0, slots := 0, locals := 0 }
def f_X12_within (x0 : Int32) (x1 : Int32) (x2 : Int32) : Option (Int32) :=
  if x0 < x1 then
    some 0
  else
    if x2 < x0 then
      some 0
    else
      some 1
set_option maxHeartbeats 4000000 in
set_option maxRecDepth 100000 in
theorem c_X12_within (l : Launch) (E : gs_E) (x0 : Int32) (x1 : Int32) (x2 : Int32) (rr : Int32) (h : f_X12_within x0 x1 x2 = some rr) : gs_MR l yX12_within wsX12_within rm_X12_within [.int x0, .int x1, .int x2] E (w_X12_within E ) (some (.int rr)) := by
  refine Met.ofW (cc := cX12_within) (maxL := 3) (ret := (some .boolean)) (by decide) rfl ?_
  intro p e s m args below meth c s₁ B hml hv
  obtain ⟨rfl, hP, hk, hD0⟩ := hv
  have X0 : gs_X wsX12_within cX12_within RX12 3 (some .boolean) p s m ([.int x0, .int x1, .int x2] : List Value).toArray meth c := gs_X.of B hml
  obtain ⟨hx, hb, -, hown, hts, hr, hlk⟩ := id X0
  have hD := hD0
  have hret : ∀ (pc : Nat) (ls : Array Slot), narrow .boolean (.int rr) = .int rr → decode cX12_within pc = .ok (.ireturn, 1) → W p l e rm_X12_within s m ([.int x0, .int x1, .int x2] : List Value).toArray below meth c s.heap [] 0 0 (MQ below (gs_QR (some (.int rr))) ([.int x0, .int x1, .int x2] : List Value).toArray s 0 0 (fun _ => False)) (F0 m pc ls [.int rr]) := fun pc ls hnar hd => W.zret hx hb hr hnar (fun t ht hW => ⟨rfl, ht⟩) (fun q hq => by cases hq) hd
  have hl := lv_entry ([.int x0, .int x1, .int x2]) (n := 3) (Nat.le_of_ble_eq_true rfl)
  rw [lg_entry_eq]
  generalize (lg_sl ([.int x0, .int x1, .int x2]) ++ List.replicate (3 - (lg_sl ([.int x0, .int x1, .int x2])).length) Slot.unset).toArray = ls at hl ⊢
  have hl : lv_has ls 3 [(0, .int x0), (1, .int x1), (2, .int x2)] := hl
  unfold f_X12_within at h
  refine lv_iload_n hx hb dX12_within_0 rfl (lv_at hl 0 rfl) ?_
  refine lv_iload_n hx hb dX12_within_1 rfl (lv_at hl 1 rfl) ?_
  refine lv_icmp_lt (tgt := 14) hx hb dX12_within_2 (by decide) (fun c1 => ?_) (fun c1 => ?_)
  · replace h := gs_ift c1 h
    refine lv_iconst (v := 0) hx hb dX12_within_14 (by decide) ?_
    have h := Option.some.inj h
    subst h
    exact hret _ _ rfl dX12_within_15
  · replace h := gs_iff c1 h
    refine lv_iload_n hx hb dX12_within_5 rfl (lv_at hl 0 rfl) ?_
    refine lv_iload_n hx hb dX12_within_6 rfl (lv_at hl 2 rfl) ?_
    refine lv_icmp_gt (tgt := 14) hx hb dX12_within_7 (by decide) (fun c2 => ?_) (fun c2 => ?_)
    · replace h := gs_ift c2 h
      refine lv_iconst (v := 0) hx hb dX12_within_14 (by decide) ?_
      have h := Option.some.inj h
      subst h
      exact hret _ _ rfl dX12_within_15
    · replace h := gs_iff c2 h
      refine lv_iconst (v := 1) hx hb dX12_within_10 (by decide) ?_
      refine lv_goto (tgt := 15) hx hb dX12_within_11 (by decide) ?_
      have h := Option.some.inj h
      subst h
      exact hret _ _ rfl dX12_within_15

theorem dX12_bounded_0 : decode cX12_bounded 0 = .ok (.iload_n 0, 1) := by decide +kernel
theorem dX12_bounded_1 : decode cX12_bounded 1 = .ok (.iload_n 1, 1) := by decide +kernel
theorem dX12_bounded_2 : decode cX12_bounded 2 = .ok (.if_icmp .ge 7, 3) := by decide +kernel
theorem dX12_bounded_5 : decode cX12_bounded 5 = .ok (.iload_n 1, 1) := by decide +kernel
theorem dX12_bounded_6 : decode cX12_bounded 6 = .ok (.goto 13, 3) := by decide +kernel
theorem dX12_bounded_9 : decode cX12_bounded 9 = .ok (.iload_n 0, 1) := by decide +kernel
theorem dX12_bounded_10 : decode cX12_bounded 10 = .ok (.iload_n 2, 1) := by decide +kernel
theorem dX12_bounded_11 : decode cX12_bounded 11 = .ok (.if_icmp .le 7, 3) := by decide +kernel
theorem dX12_bounded_14 : decode cX12_bounded 14 = .ok (.iload_n 2, 1) := by decide +kernel
theorem dX12_bounded_15 : decode cX12_bounded 15 = .ok (.goto 4, 3) := by decide +kernel
theorem dX12_bounded_18 : decode cX12_bounded 18 = .ok (.iload_n 0, 1) := by decide +kernel
theorem dX12_bounded_19 : decode cX12_bounded 19 = .ok (.ireturn, 1) := by decide +kernel
abbrev w_X12_bounded (E : gs_E) : va_W := []
abbrev rm_X12_bounded : Room := { frames := 0, cells := 0, slots := 0, locals := 0 }
def f_X12_bounded (x0 : Int32) (x1 : Int32) (x2 : Int32) : Option (Int32) :=
  if x1 ≤ x0 then
    if x0 ≤ x2 then
      some x0
    else
      some x2
  else
    some x1
set_option maxHeartbeats 4000000 in
set_option maxRecDepth 100000 in
theorem c_X12_bounded (l : Launch) (E : gs_E) (x0 : Int32) (x1 : Int32) (x2 : Int32) (rr : Int32) (h : f_X12_bounded x0 x1 x2 = some rr) : gs_MR l yX12_bounded wsX12_bounded rm_X12_bounded [.int x0, .int x1, .int x2] E (w_X12_bounded E ) (some (.int rr)) := by
  refine Met.ofW (cc := cX12_bounded) (maxL := 3) (ret := (some .int)) (by decide) rfl ?_
  intro p e s m args below meth c s₁ B hml hv
  obtain ⟨rfl, hP, hk, hD0⟩ := hv
  have X0 : gs_X wsX12_bounded cX12_bounded RX12 3 (some .int) p s m ([.int x0, .int x1, .int x2] : List Value).toArray meth c := gs_X.of B hml
  obtain ⟨hx, hb, -, hown, hts, hr, hlk⟩ := id X0
  have hD := hD0
  have hret : ∀ (pc : Nat) (ls : Array Slot), decode cX12_bounded pc = .ok (.ireturn, 1) → W p l e rm_X12_bounded s m ([.int x0, .int x1, .int x2] : List Value).toArray below meth c s.heap [] 0 0 (MQ below (gs_QR (some (.int rr))) ([.int x0, .int x1, .int x2] : List Value).toArray s 0 0 (fun _ => False)) (F0 m pc ls [.int rr]) := fun pc ls hd => W.iret hx hb hr (fun t ht hW => ⟨rfl, ht⟩) (fun q hq => by cases hq) hd
  have hl := lv_entry ([.int x0, .int x1, .int x2]) (n := 3) (Nat.le_of_ble_eq_true rfl)
  rw [lg_entry_eq]
  generalize (lg_sl ([.int x0, .int x1, .int x2]) ++ List.replicate (3 - (lg_sl ([.int x0, .int x1, .int x2])).length) Slot.unset).toArray = ls at hl ⊢
  have hl : lv_has ls 3 [(0, .int x0), (1, .int x1), (2, .int x2)] := hl
  unfold f_X12_bounded at h
  refine lv_iload_n hx hb dX12_bounded_0 rfl (lv_at hl 0 rfl) ?_
  refine lv_iload_n hx hb dX12_bounded_1 rfl (lv_at hl 1 rfl) ?_
  refine lv_icmp_ge (tgt := 9) hx hb dX12_bounded_2 (by decide) (fun c1 => ?_) (fun c1 => ?_)
  · replace h := gs_ift c1 h
    refine lv_iload_n hx hb dX12_bounded_9 rfl (lv_at hl 0 rfl) ?_
    refine lv_iload_n hx hb dX12_bounded_10 rfl (lv_at hl 2 rfl) ?_
    refine lv_icmp_le (tgt := 18) hx hb dX12_bounded_11 (by decide) (fun c2 => ?_) (fun c2 => ?_)
    · replace h := gs_ift c2 h
      refine lv_iload_n hx hb dX12_bounded_18 rfl (lv_at hl 0 rfl) ?_
      have h := Option.some.inj h
      subst h
      exact hret _ _ dX12_bounded_19
    · replace h := gs_iff c2 h
      refine lv_iload_n hx hb dX12_bounded_14 rfl (lv_at hl 2 rfl) ?_
      refine lv_goto (tgt := 19) hx hb dX12_bounded_15 (by decide) ?_
      have h := Option.some.inj h
      subst h
      exact hret _ _ dX12_bounded_19
  · replace h := gs_iff c1 h
    refine lv_iload_n hx hb dX12_bounded_5 rfl (lv_at hl 1 rfl) ?_
    refine lv_goto (tgt := 19) hx hb dX12_bounded_6 (by decide) ?_
    have h := Option.some.inj h
    subst h
    exact hret _ _ dX12_bounded_19

theorem dX12_greater_0 : decode cX12_greater 0 = .ok (.iload_n 0, 1) := by decide +kernel
theorem dX12_greater_1 : decode cX12_greater 1 = .ok (.iload_n 1, 1) := by decide +kernel
theorem dX12_greater_2 : decode cX12_greater 2 = .ok (.if_icmp .le 7, 3) := by decide +kernel
theorem dX12_greater_5 : decode cX12_greater 5 = .ok (.iload_n 0, 1) := by decide +kernel
theorem dX12_greater_6 : decode cX12_greater 6 = .ok (.goto 4, 3) := by decide +kernel
theorem dX12_greater_9 : decode cX12_greater 9 = .ok (.iload_n 1, 1) := by decide +kernel
theorem dX12_greater_10 : decode cX12_greater 10 = .ok (.ireturn, 1) := by decide +kernel
abbrev w_X12_greater (E : gs_E) : va_W := []
abbrev rm_X12_greater : Room := { frames := 0, cells := 0, slots := 0, locals := 0 }
def f_X12_greater (x0 : Int32) (x1 : Int32) : Option (Int32) :=
  if x0 ≤ x1 then
    some x1
  else
    some x0
set_option maxHeartbeats 4000000 in
set_option maxRecDepth 100000 in
theorem c_X12_greater (l : Launch) (E : gs_E) (x0 : Int32) (x1 : Int32) (rr : Int32) (h : f_X12_greater x0 x1 = some rr) : gs_MR l yX12_greater wsX12_greater rm_X12_greater [.int x0, .int x1] E (w_X12_greater E ) (some (.int rr)) := by
  refine Met.ofW (cc := cX12_greater) (maxL := 2) (ret := (some .int)) (by decide) rfl ?_
  intro p e s m args below meth c s₁ B hml hv
  obtain ⟨rfl, hP, hk, hD0⟩ := hv
  have X0 : gs_X wsX12_greater cX12_greater RX12 2 (some .int) p s m ([.int x0, .int x1] : List Value).toArray meth c := gs_X.of B hml
  obtain ⟨hx, hb, -, hown, hts, hr, hlk⟩ := id X0
  have hD := hD0
  have hret : ∀ (pc : Nat) (ls : Array Slot), decode cX12_greater pc = .ok (.ireturn, 1) → W p l e rm_X12_greater s m ([.int x0, .int x1] : List Value).toArray below meth c s.heap [] 0 0 (MQ below (gs_QR (some (.int rr))) ([.int x0, .int x1] : List Value).toArray s 0 0 (fun _ => False)) (F0 m pc ls [.int rr]) := fun pc ls hd => W.iret hx hb hr (fun t ht hW => ⟨rfl, ht⟩) (fun q hq => by cases hq) hd
  have hl := lv_entry ([.int x0, .int x1]) (n := 2) (Nat.le_of_ble_eq_true rfl)
  rw [lg_entry_eq]
  generalize (lg_sl ([.int x0, .int x1]) ++ List.replicate (2 - (lg_sl ([.int x0, .int x1])).length) Slot.unset).toArray = ls at hl ⊢
  have hl : lv_has ls 2 [(0, .int x0), (1, .int x1)] := hl
  unfold f_X12_greater at h
  refine lv_iload_n hx hb dX12_greater_0 rfl (lv_at hl 0 rfl) ?_
  refine lv_iload_n hx hb dX12_greater_1 rfl (lv_at hl 1 rfl) ?_
  refine lv_icmp_le (tgt := 9) hx hb dX12_greater_2 (by decide) (fun c1 => ?_) (fun c1 => ?_)
  · replace h := gs_ift c1 h
    refine lv_iload_n hx hb dX12_greater_9 rfl (lv_at hl 1 rfl) ?_
    have h := Option.some.inj h
    subst h
    exact hret _ _ dX12_greater_10
  · replace h := gs_iff c1 h
    refine lv_iload_n hx hb dX12_greater_5 rfl (lv_at hl 0 rfl) ?_
    refine lv_goto (tgt := 10) hx hb dX12_greater_6 (by decide) ?_
    have h := Option.some.inj h
    subst h
    exact hret _ _ dX12_greater_10

theorem dX12_copies_0 : decode cX12_copies 0 = .ok (.iconst 0, 1) := by decide +kernel
theorem dX12_copies_1 : decode cX12_copies 1 = .ok (.istore_n 3, 1) := by decide +kernel
theorem dX12_copies_2 : decode cX12_copies 2 = .ok (.iload_n 3, 1) := by decide +kernel
theorem dX12_copies_3 : decode cX12_copies 3 = .ok (.aload_n 1, 1) := by decide +kernel
theorem dX12_copies_4 : decode cX12_copies 4 = .ok (.arraylength, 1) := by decide +kernel
theorem dX12_copies_5 : decode cX12_copies 5 = .ok (.if_icmp .ge 15, 3) := by decide +kernel
theorem dX12_copies_8 : decode cX12_copies 8 = .ok (.aload_n 2, 1) := by decide +kernel
theorem dX12_copies_9 : decode cX12_copies 9 = .ok (.iload_n 3, 1) := by decide +kernel
theorem dX12_copies_10 : decode cX12_copies 10 = .ok (.aload_n 1, 1) := by decide +kernel
theorem dX12_copies_11 : decode cX12_copies 11 = .ok (.iload_n 3, 1) := by decide +kernel
theorem dX12_copies_12 : decode cX12_copies 12 = .ok (.iaload, 1) := by decide +kernel
theorem dX12_copies_13 : decode cX12_copies 13 = .ok (.iastore, 1) := by decide +kernel
theorem dX12_copies_14 : decode cX12_copies 14 = .ok (.iinc 3 1, 3) := by decide +kernel
theorem dX12_copies_17 : decode cX12_copies 17 = .ok (.goto (-15), 3) := by decide +kernel
theorem dX12_copies_20 : decode cX12_copies 20 = .ok (.return_, 1) := by decide +kernel
abbrev w_X12_copies (E : gs_E) (a_t a_p1 a_p2 a_t_songLong a_t_firstNote a_t_wit a_t_code a_t_tape a_t_refused a_t_newSongLong a_t_newFirstNote a_t_newWit a_t_newRow a_t_readCode a_t_waits a_t_tested a_t_isTold a_t_rows a_t_ahead a_t_told a_t_pile a_t_common a_t_mostOf a_t_likes a_t_heard a_t_soon a_t_soonAll a_t_imageRow a_t_imageAhead a_t_imageHears : Nat) (n_p1 n_p2 : Nat) (v_t_thrown : Int32) (v_t_songs : Int32) (v_t_people : Int32) (v_t_forgetsAt : Int32) (v_t_fillsAt : Int32) (v_t_taped : Int32) (v_t_faultKind : Int32) (v_t_faultPlace : Int32) (v_t_long1 : Int32) (v_t_next0 : Int32) (v_t_sort : Int32) (v_t_place : Int32) (v_t_long0 : Int32) (v_t_value : Int32) (v_t_sign : Int32) (v_t_word : Int64) (v_t_newSongs : Int32) (v_t_newPeople : Int32) (v_t_newForgetsAt : Int32) (v_t_newFillsAt : Int32) (v_t_top : Int32) (v_t_firstValue : Int32) (v_t_lastValue : Int32) (v_t_waiting : Int32) (v_t_depth : Int32) (v_t_acts : Int32) (v_t_isWinter : Int32) (v_t_learntNow : Int32) (v_t_forgottenNow : Int32) (v_t_heardMany : Int32) (v_t_its0 : Int32) (v_t_hasImage : Int32) (v_t_imageActs : Int32) (v_t_imageHeard : Int32) (r_p1 : Nat → Int32) (r_p2 : Nat → Int32) : va_W := [(a_t, .inr (12, [.int v_t_thrown, .int v_t_songs, .int v_t_people, .int v_t_forgetsAt, .int v_t_fillsAt, .ref a_t_songLong, .ref a_t_firstNote, .ref a_t_wit, .ref a_t_code, .ref a_t_tape, .int v_t_taped, .int v_t_faultKind, .int v_t_faultPlace, .ref a_t_refused, .int v_t_long1, .int v_t_next0, .int v_t_sort, .int v_t_place, .int v_t_long0, .int v_t_value, .int v_t_sign, .long v_t_word, .int v_t_newSongs, .int v_t_newPeople, .int v_t_newForgetsAt, .int v_t_newFillsAt, .int v_t_top, .int v_t_firstValue, .int v_t_lastValue, .int v_t_waiting, .int v_t_depth, .ref a_t_newSongLong, .ref a_t_newFirstNote, .ref a_t_newWit, .ref a_t_newRow, .ref a_t_readCode, .ref a_t_waits, .ref a_t_tested, .ref a_t_isTold, .ref a_t_rows, .ref a_t_ahead, .int v_t_acts, .ref a_t_told, .ref a_t_pile, .int v_t_isWinter, .int v_t_learntNow, .int v_t_forgottenNow, .ref a_t_common, .ref a_t_mostOf, .ref a_t_likes, .int v_t_heardMany, .ref a_t_heard, .ref a_t_soon, .ref a_t_soonAll, .int v_t_its0, .int v_t_hasImage, .int v_t_imageActs, .int v_t_imageHeard, .ref a_t_imageRow, .ref a_t_imageAhead, .ref a_t_imageHears])), (a_p1, .inl (E.2.1, n_p1, .inl r_p1)), (a_p2, .inl (E.2.1, n_p2, .inl r_p2))]
abbrev rm_X12_copies : Room := { frames := 0, cells := 0, slots := 0, locals := 0 }
def S_X12_copies_2 (p : Program) (l : Launch) (e : Env) (s : State) (m : MethodId) (args : Array Value) (below : List Frame) (meth : Method) (c : Code) (Q : State → Prop) (a_t a_p1 a_p2 a_t_songLong a_t_firstNote a_t_wit a_t_code a_t_tape a_t_refused a_t_newSongLong a_t_newFirstNote a_t_newWit a_t_newRow a_t_readCode a_t_waits a_t_tested a_t_isTold a_t_rows a_t_ahead a_t_told a_t_pile a_t_common a_t_mostOf a_t_likes a_t_heard a_t_soon a_t_soonAll a_t_imageRow a_t_imageAhead a_t_imageHears : Nat) (n_p1 n_p2 : Nat) (E : gs_E) (A : Nat → Prop) (v_t_thrown : Int32) (v_t_songs : Int32) (v_t_people : Int32) (v_t_forgetsAt : Int32) (v_t_fillsAt : Int32) (v_t_taped : Int32) (v_t_faultKind : Int32) (v_t_faultPlace : Int32) (v_t_long1 : Int32) (v_t_next0 : Int32) (v_t_sort : Int32) (v_t_place : Int32) (v_t_long0 : Int32) (v_t_value : Int32) (v_t_sign : Int32) (v_t_word : Int64) (v_t_newSongs : Int32) (v_t_newPeople : Int32) (v_t_newForgetsAt : Int32) (v_t_newFillsAt : Int32) (v_t_top : Int32) (v_t_firstValue : Int32) (v_t_lastValue : Int32) (v_t_waiting : Int32) (v_t_depth : Int32) (v_t_acts : Int32) (v_t_isWinter : Int32) (v_t_learntNow : Int32) (v_t_forgottenNow : Int32) (v_t_heardMany : Int32) (v_t_its0 : Int32) (v_t_hasImage : Int32) (v_t_imageActs : Int32) (v_t_imageHeard : Int32) (r_p1 : Nat → Int32) (r_p2 : Nat → Int32) (x3 : Int32) : Prop := ∀ (H : Heap) (locs : List Loc) (ls : Array Slot), va_P E.1 vwCl (w_X12_copies E a_t a_p1 a_p2 a_t_songLong a_t_firstNote a_t_wit a_t_code a_t_tape a_t_refused a_t_newSongLong a_t_newFirstNote a_t_newWit a_t_newRow a_t_readCode a_t_waits a_t_tested a_t_isTold a_t_rows a_t_ahead a_t_told a_t_pile a_t_common a_t_mostOf a_t_likes a_t_heard a_t_soon a_t_soonAll a_t_imageRow a_t_imageAhead a_t_imageHears n_p1 n_p2 v_t_thrown v_t_songs v_t_people v_t_forgetsAt v_t_fillsAt v_t_taped v_t_faultKind v_t_faultPlace v_t_long1 v_t_next0 v_t_sort v_t_place v_t_long0 v_t_value v_t_sign v_t_word v_t_newSongs v_t_newPeople v_t_newForgetsAt v_t_newFillsAt v_t_top v_t_firstValue v_t_lastValue v_t_waiting v_t_depth v_t_acts v_t_isWinter v_t_learntNow v_t_forgottenNow v_t_heardMany v_t_its0 v_t_hasImage v_t_imageActs v_t_imageHeard r_p1 r_p2) H → va_D A (w_X12_copies E a_t a_p1 a_p2 a_t_songLong a_t_firstNote a_t_wit a_t_code a_t_tape a_t_refused a_t_newSongLong a_t_newFirstNote a_t_newWit a_t_newRow a_t_readCode a_t_waits a_t_tested a_t_isTold a_t_rows a_t_ahead a_t_told a_t_pile a_t_common a_t_mostOf a_t_likes a_t_heard a_t_soon a_t_soonAll a_t_imageRow a_t_imageAhead a_t_imageHears n_p1 n_p2 v_t_thrown v_t_songs v_t_people v_t_forgetsAt v_t_fillsAt v_t_taped v_t_faultKind v_t_faultPlace v_t_long1 v_t_next0 v_t_sort v_t_place v_t_long0 v_t_value v_t_sign v_t_word v_t_newSongs v_t_newPeople v_t_newForgetsAt v_t_newFillsAt v_t_top v_t_firstValue v_t_lastValue v_t_waiting v_t_depth v_t_acts v_t_isWinter v_t_learntNow v_t_forgottenNow v_t_heardMany v_t_its0 v_t_hasImage v_t_imageActs v_t_imageHeard r_p1 r_p2) → va_S A s.heap H locs → lv_has ls 4 [(1, .ref a_p1), (2, .ref a_p2), (3, .int x3)] → W p l e rm_X12_copies s m args below meth c H locs 0 0 Q (F0 m 2 ls [])
def f_X12_copies_2 (n_p1 : Nat) (n_p2 : Nat) (r_p1 : Nat → Int32) (K2 : Int32 → (Nat → Int32) → Option ((Nat → Int32))) (x3 : Int32) (r_p2 : Nat → Int32) : Option ((Nat → Int32)) :=
  if (Int32.ofNat n_p1) ≤ x3 then
    some r_p2
  else
    gs_gd (gs_in x3 n_p1) <|
    gs_gd (gs_in x3 n_p2) <|
    K2 (x3 + 1) (upd r_p2 x3.toNatClampNeg (r_p1 x3.toNatClampNeg))
set_option maxHeartbeats 4000000 in
set_option maxRecDepth 100000 in
theorem t_X12_copies_2_b {p : Program} {l : Launch} {e : Env} {s : State} {m : MethodId} {args : Array Value} {below : List Frame} {meth : Method} {c : Code} {Q : State → Prop} {E : gs_E} {A : Nat → Prop} {a_t a_p1 a_p2 a_t_songLong a_t_firstNote a_t_wit a_t_code a_t_tape a_t_refused a_t_newSongLong a_t_newFirstNote a_t_newWit a_t_newRow a_t_readCode a_t_waits a_t_tested a_t_isTold a_t_rows a_t_ahead a_t_told a_t_pile a_t_common a_t_mostOf a_t_likes a_t_heard a_t_soon a_t_soonAll a_t_imageRow a_t_imageAhead a_t_imageHears : Nat} {n_p1 n_p2 : Nat} {o_p2 : Nat → Int32} (X0 : gs_X wsX12_copies cX12_copies RX12 4 none p s m args meth c) (hk : gs_K E s) {v_t_thrown : Int32} {v_t_songs : Int32} {v_t_people : Int32} {v_t_forgetsAt : Int32} {v_t_fillsAt : Int32} {v_t_taped : Int32} {v_t_faultKind : Int32} {v_t_faultPlace : Int32} {v_t_long1 : Int32} {v_t_next0 : Int32} {v_t_sort : Int32} {v_t_place : Int32} {v_t_long0 : Int32} {v_t_value : Int32} {v_t_sign : Int32} {v_t_word : Int64} {v_t_newSongs : Int32} {v_t_newPeople : Int32} {v_t_newForgetsAt : Int32} {v_t_newFillsAt : Int32} {v_t_top : Int32} {v_t_firstValue : Int32} {v_t_lastValue : Int32} {v_t_waiting : Int32} {v_t_depth : Int32} {v_t_acts : Int32} {v_t_isWinter : Int32} {v_t_learntNow : Int32} {v_t_forgottenNow : Int32} {v_t_heardMany : Int32} {v_t_its0 : Int32} {v_t_hasImage : Int32} {v_t_imageActs : Int32} {v_t_imageHeard : Int32} {r_p1 : Nat → Int32} {r_p2 : Nat → Int32} {x3 : Int32} (hret : ∀ (H : Heap) (locs : List Loc) (pc : Nat) (ls : Array Slot), va_P E.1 vwCl (w_X12_copies E a_t a_p1 a_p2 a_t_songLong a_t_firstNote a_t_wit a_t_code a_t_tape a_t_refused a_t_newSongLong a_t_newFirstNote a_t_newWit a_t_newRow a_t_readCode a_t_waits a_t_tested a_t_isTold a_t_rows a_t_ahead a_t_told a_t_pile a_t_common a_t_mostOf a_t_likes a_t_heard a_t_soon a_t_soonAll a_t_imageRow a_t_imageAhead a_t_imageHears n_p1 n_p2 v_t_thrown v_t_songs v_t_people v_t_forgetsAt v_t_fillsAt v_t_taped v_t_faultKind v_t_faultPlace v_t_long1 v_t_next0 v_t_sort v_t_place v_t_long0 v_t_value v_t_sign v_t_word v_t_newSongs v_t_newPeople v_t_newForgetsAt v_t_newFillsAt v_t_top v_t_firstValue v_t_lastValue v_t_waiting v_t_depth v_t_acts v_t_isWinter v_t_learntNow v_t_forgottenNow v_t_heardMany v_t_its0 v_t_hasImage v_t_imageActs v_t_imageHeard r_p1 o_p2) H → va_S A s.heap H locs → decode cX12_copies pc = .ok (.return_, 1) → W p l e rm_X12_copies s m args below meth c H locs 0 0 Q (F0 m pc ls [])) {K2 : Int32 → (Nat → Int32) → Option ((Nat → Int32))} (hK2 : ∀ (x3 : Int32) (r_p2 : Nat → Int32), K2 x3 r_p2 = some o_p2 → S_X12_copies_2 p l e s m args below meth c Q a_t a_p1 a_p2 a_t_songLong a_t_firstNote a_t_wit a_t_code a_t_tape a_t_refused a_t_newSongLong a_t_newFirstNote a_t_newWit a_t_newRow a_t_readCode a_t_waits a_t_tested a_t_isTold a_t_rows a_t_ahead a_t_told a_t_pile a_t_common a_t_mostOf a_t_likes a_t_heard a_t_soon a_t_soonAll a_t_imageRow a_t_imageAhead a_t_imageHears n_p1 n_p2 E A v_t_thrown v_t_songs v_t_people v_t_forgetsAt v_t_fillsAt v_t_taped v_t_faultKind v_t_faultPlace v_t_long1 v_t_next0 v_t_sort v_t_place v_t_long0 v_t_value v_t_sign v_t_word v_t_newSongs v_t_newPeople v_t_newForgetsAt v_t_newFillsAt v_t_top v_t_firstValue v_t_lastValue v_t_waiting v_t_depth v_t_acts v_t_isWinter v_t_learntNow v_t_forgottenNow v_t_heardMany v_t_its0 v_t_hasImage v_t_imageActs v_t_imageHeard r_p1 r_p2 x3) (h : f_X12_copies_2 n_p1 n_p2 r_p1 K2 x3 r_p2 = some o_p2) : S_X12_copies_2 p l e s m args below meth c Q a_t a_p1 a_p2 a_t_songLong a_t_firstNote a_t_wit a_t_code a_t_tape a_t_refused a_t_newSongLong a_t_newFirstNote a_t_newWit a_t_newRow a_t_readCode a_t_waits a_t_tested a_t_isTold a_t_rows a_t_ahead a_t_told a_t_pile a_t_common a_t_mostOf a_t_likes a_t_heard a_t_soon a_t_soonAll a_t_imageRow a_t_imageAhead a_t_imageHears n_p1 n_p2 E A v_t_thrown v_t_songs v_t_people v_t_forgetsAt v_t_fillsAt v_t_taped v_t_faultKind v_t_faultPlace v_t_long1 v_t_next0 v_t_sort v_t_place v_t_long0 v_t_value v_t_sign v_t_word v_t_newSongs v_t_newPeople v_t_newForgetsAt v_t_newFillsAt v_t_top v_t_firstValue v_t_lastValue v_t_waiting v_t_depth v_t_acts v_t_isWinter v_t_learntNow v_t_forgottenNow v_t_heardMany v_t_its0 v_t_hasImage v_t_imageActs v_t_imageHeard r_p1 r_p2 x3 := by
  obtain ⟨hx, hb, hml, hown, hts, hr, hlk⟩ := id X0
  intro H locs ls hP hD hS hl
  unfold f_X12_copies_2 at h
  refine lv_iload_n hx hb dX12_copies_2 rfl (lv_at hl 2 rfl) ?_
  refine lv_aload_n hx hb dX12_copies_3 rfl (lv_at hl 0 rfl) ?_
  refine va_alen (v := Int32.ofNat n_p1) hx hb hk.1 hP 1 0 rfl rfl rfl dX12_copies_4 ?_
  refine lv_icmp_ge (tgt := 20) hx hb dX12_copies_5 (by decide) (fun c1 => ?_) (fun c1 => ?_)
  · replace h := gs_ift c1 h
    have h := Option.some.inj h
    subst h
    exact hret _ _ _ _ hP hS dX12_copies_20
  · replace h := gs_iff c1 h
    refine lv_aload_n hx hb dX12_copies_8 rfl (lv_at hl 1 rfl) ?_
    refine lv_iload_n hx hb dX12_copies_9 rfl (lv_at hl 2 rfl) ?_
    refine lv_aload_n hx hb dX12_copies_10 rfl (lv_at hl 0 rfl) ?_
    refine lv_iload_n hx hb dX12_copies_11 rfl (lv_at hl 2 rfl) ?_
    obtain ⟨g2, h⟩ := gs_gd_e h
    refine va_iald hx hb hk.1 hP 1 0 rfl rfl (gs_in_e g2) dX12_copies_12 ?_
    obtain ⟨g3, h⟩ := gs_gd_e h
    refine va_iast hx hb hk.1 hP hD hS 2 0 rfl rfl (gs_in_e g3) dX12_copies_13 (fun H locs hP hD hS => ?_)
    have hP : va_P E.1 vwCl (w_X12_copies E a_t a_p1 a_p2 a_t_songLong a_t_firstNote a_t_wit a_t_code a_t_tape a_t_refused a_t_newSongLong a_t_newFirstNote a_t_newWit a_t_newRow a_t_readCode a_t_waits a_t_tested a_t_isTold a_t_rows a_t_ahead a_t_told a_t_pile a_t_common a_t_mostOf a_t_likes a_t_heard a_t_soon a_t_soonAll a_t_imageRow a_t_imageAhead a_t_imageHears n_p1 n_p2 v_t_thrown v_t_songs v_t_people v_t_forgetsAt v_t_fillsAt v_t_taped v_t_faultKind v_t_faultPlace v_t_long1 v_t_next0 v_t_sort v_t_place v_t_long0 v_t_value v_t_sign v_t_word v_t_newSongs v_t_newPeople v_t_newForgetsAt v_t_newFillsAt v_t_top v_t_firstValue v_t_lastValue v_t_waiting v_t_depth v_t_acts v_t_isWinter v_t_learntNow v_t_forgottenNow v_t_heardMany v_t_its0 v_t_hasImage v_t_imageActs v_t_imageHeard r_p1 (upd r_p2 x3.toNatClampNeg (r_p1 x3.toNatClampNeg))) H := hP
    have hD : va_D A (w_X12_copies E a_t a_p1 a_p2 a_t_songLong a_t_firstNote a_t_wit a_t_code a_t_tape a_t_refused a_t_newSongLong a_t_newFirstNote a_t_newWit a_t_newRow a_t_readCode a_t_waits a_t_tested a_t_isTold a_t_rows a_t_ahead a_t_told a_t_pile a_t_common a_t_mostOf a_t_likes a_t_heard a_t_soon a_t_soonAll a_t_imageRow a_t_imageAhead a_t_imageHears n_p1 n_p2 v_t_thrown v_t_songs v_t_people v_t_forgetsAt v_t_fillsAt v_t_taped v_t_faultKind v_t_faultPlace v_t_long1 v_t_next0 v_t_sort v_t_place v_t_long0 v_t_value v_t_sign v_t_word v_t_newSongs v_t_newPeople v_t_newForgetsAt v_t_newFillsAt v_t_top v_t_firstValue v_t_lastValue v_t_waiting v_t_depth v_t_acts v_t_isWinter v_t_learntNow v_t_forgottenNow v_t_heardMany v_t_its0 v_t_hasImage v_t_imageActs v_t_imageHeard r_p1 (upd r_p2 x3.toNatClampNeg (r_p1 x3.toNatClampNeg))) := hD
    refine lv_iinc (v := x3 + 1) (lv' := [(3, .int (x3 + 1)), (1, .ref a_p1), (2, .ref a_p2)]) hx hb dX12_copies_14 hl (k := 2) rfl rfl (by decide) rfl (fun ls hl => ?_)
    refine lv_goto (tgt := 2) hx hb dX12_copies_17 (by decide) ?_
    exact hK2 (x3 + 1) (upd r_p2 x3.toNatClampNeg (r_p1 x3.toNatClampNeg)) h _ _ _ hP hD hS (lv_sub hl [1, 2, 0] rfl)
set_option maxHeartbeats 4000000 in
set_option maxRecDepth 100000 in
theorem t_X12_copies_2_n {p : Program} {l : Launch} {e : Env} {s : State} {m : MethodId} {args : Array Value} {below : List Frame} {meth : Method} {c : Code} {Q : State → Prop} {E : gs_E} {A : Nat → Prop} {a_t a_p1 a_p2 a_t_songLong a_t_firstNote a_t_wit a_t_code a_t_tape a_t_refused a_t_newSongLong a_t_newFirstNote a_t_newWit a_t_newRow a_t_readCode a_t_waits a_t_tested a_t_isTold a_t_rows a_t_ahead a_t_told a_t_pile a_t_common a_t_mostOf a_t_likes a_t_heard a_t_soon a_t_soonAll a_t_imageRow a_t_imageAhead a_t_imageHears : Nat} {n_p1 n_p2 : Nat} {o_p2 : Nat → Int32} (X0 : gs_X wsX12_copies cX12_copies RX12 4 none p s m args meth c) (hk : gs_K E s) {v_t_thrown : Int32} {v_t_songs : Int32} {v_t_people : Int32} {v_t_forgetsAt : Int32} {v_t_fillsAt : Int32} {v_t_taped : Int32} {v_t_faultKind : Int32} {v_t_faultPlace : Int32} {v_t_long1 : Int32} {v_t_next0 : Int32} {v_t_sort : Int32} {v_t_place : Int32} {v_t_long0 : Int32} {v_t_value : Int32} {v_t_sign : Int32} {v_t_word : Int64} {v_t_newSongs : Int32} {v_t_newPeople : Int32} {v_t_newForgetsAt : Int32} {v_t_newFillsAt : Int32} {v_t_top : Int32} {v_t_firstValue : Int32} {v_t_lastValue : Int32} {v_t_waiting : Int32} {v_t_depth : Int32} {v_t_acts : Int32} {v_t_isWinter : Int32} {v_t_learntNow : Int32} {v_t_forgottenNow : Int32} {v_t_heardMany : Int32} {v_t_its0 : Int32} {v_t_hasImage : Int32} {v_t_imageActs : Int32} {v_t_imageHeard : Int32} {r_p1 : Nat → Int32} (hret : ∀ (H : Heap) (locs : List Loc) (pc : Nat) (ls : Array Slot), va_P E.1 vwCl (w_X12_copies E a_t a_p1 a_p2 a_t_songLong a_t_firstNote a_t_wit a_t_code a_t_tape a_t_refused a_t_newSongLong a_t_newFirstNote a_t_newWit a_t_newRow a_t_readCode a_t_waits a_t_tested a_t_isTold a_t_rows a_t_ahead a_t_told a_t_pile a_t_common a_t_mostOf a_t_likes a_t_heard a_t_soon a_t_soonAll a_t_imageRow a_t_imageAhead a_t_imageHears n_p1 n_p2 v_t_thrown v_t_songs v_t_people v_t_forgetsAt v_t_fillsAt v_t_taped v_t_faultKind v_t_faultPlace v_t_long1 v_t_next0 v_t_sort v_t_place v_t_long0 v_t_value v_t_sign v_t_word v_t_newSongs v_t_newPeople v_t_newForgetsAt v_t_newFillsAt v_t_top v_t_firstValue v_t_lastValue v_t_waiting v_t_depth v_t_acts v_t_isWinter v_t_learntNow v_t_forgottenNow v_t_heardMany v_t_its0 v_t_hasImage v_t_imageActs v_t_imageHeard r_p1 o_p2) H → va_S A s.heap H locs → decode cX12_copies pc = .ok (.return_, 1) → W p l e rm_X12_copies s m args below meth c H locs 0 0 Q (F0 m pc ls [])) : ∀ (n : Nat) (x3 : Int32) (r_p2 : Nat → Int32), gs_it (fun _ _ => none) (f_X12_copies_2 n_p1 n_p2 r_p1) n x3 r_p2 = some o_p2 → S_X12_copies_2 p l e s m args below meth c Q a_t a_p1 a_p2 a_t_songLong a_t_firstNote a_t_wit a_t_code a_t_tape a_t_refused a_t_newSongLong a_t_newFirstNote a_t_newWit a_t_newRow a_t_readCode a_t_waits a_t_tested a_t_isTold a_t_rows a_t_ahead a_t_told a_t_pile a_t_common a_t_mostOf a_t_likes a_t_heard a_t_soon a_t_soonAll a_t_imageRow a_t_imageAhead a_t_imageHears n_p1 n_p2 E A v_t_thrown v_t_songs v_t_people v_t_forgetsAt v_t_fillsAt v_t_taped v_t_faultKind v_t_faultPlace v_t_long1 v_t_next0 v_t_sort v_t_place v_t_long0 v_t_value v_t_sign v_t_word v_t_newSongs v_t_newPeople v_t_newForgetsAt v_t_newFillsAt v_t_top v_t_firstValue v_t_lastValue v_t_waiting v_t_depth v_t_acts v_t_isWinter v_t_learntNow v_t_forgottenNow v_t_heardMany v_t_its0 v_t_hasImage v_t_imageActs v_t_imageHeard r_p1 r_p2 x3 := by
  intro n
  induction n with
  | zero =>
    intro x3 r_p2 h
    have h : (none : Option ((Nat → Int32))) = some o_p2 := h
    cases h
  | succ n ih =>
    intro x3 r_p2 h
    exact t_X12_copies_2_b X0 hk  hret  (K2 := gs_it (fun _ _ => none) (f_X12_copies_2 n_p1 n_p2 r_p1) n) (hK2 := ih) (h := h)
theorem t_X12_copies_2 {p : Program} {l : Launch} {e : Env} {s : State} {m : MethodId} {args : Array Value} {below : List Frame} {meth : Method} {c : Code} {Q : State → Prop} {E : gs_E} {A : Nat → Prop} {a_t a_p1 a_p2 a_t_songLong a_t_firstNote a_t_wit a_t_code a_t_tape a_t_refused a_t_newSongLong a_t_newFirstNote a_t_newWit a_t_newRow a_t_readCode a_t_waits a_t_tested a_t_isTold a_t_rows a_t_ahead a_t_told a_t_pile a_t_common a_t_mostOf a_t_likes a_t_heard a_t_soon a_t_soonAll a_t_imageRow a_t_imageAhead a_t_imageHears : Nat} {n_p1 n_p2 : Nat} {o_p2 : Nat → Int32} (X0 : gs_X wsX12_copies cX12_copies RX12 4 none p s m args meth c) (hk : gs_K E s) {v_t_thrown : Int32} {v_t_songs : Int32} {v_t_people : Int32} {v_t_forgetsAt : Int32} {v_t_fillsAt : Int32} {v_t_taped : Int32} {v_t_faultKind : Int32} {v_t_faultPlace : Int32} {v_t_long1 : Int32} {v_t_next0 : Int32} {v_t_sort : Int32} {v_t_place : Int32} {v_t_long0 : Int32} {v_t_value : Int32} {v_t_sign : Int32} {v_t_word : Int64} {v_t_newSongs : Int32} {v_t_newPeople : Int32} {v_t_newForgetsAt : Int32} {v_t_newFillsAt : Int32} {v_t_top : Int32} {v_t_firstValue : Int32} {v_t_lastValue : Int32} {v_t_waiting : Int32} {v_t_depth : Int32} {v_t_acts : Int32} {v_t_isWinter : Int32} {v_t_learntNow : Int32} {v_t_forgottenNow : Int32} {v_t_heardMany : Int32} {v_t_its0 : Int32} {v_t_hasImage : Int32} {v_t_imageActs : Int32} {v_t_imageHeard : Int32} {r_p1 : Nat → Int32} {r_p2 : Nat → Int32} {x3 : Int32} (hret : ∀ (H : Heap) (locs : List Loc) (pc : Nat) (ls : Array Slot), va_P E.1 vwCl (w_X12_copies E a_t a_p1 a_p2 a_t_songLong a_t_firstNote a_t_wit a_t_code a_t_tape a_t_refused a_t_newSongLong a_t_newFirstNote a_t_newWit a_t_newRow a_t_readCode a_t_waits a_t_tested a_t_isTold a_t_rows a_t_ahead a_t_told a_t_pile a_t_common a_t_mostOf a_t_likes a_t_heard a_t_soon a_t_soonAll a_t_imageRow a_t_imageAhead a_t_imageHears n_p1 n_p2 v_t_thrown v_t_songs v_t_people v_t_forgetsAt v_t_fillsAt v_t_taped v_t_faultKind v_t_faultPlace v_t_long1 v_t_next0 v_t_sort v_t_place v_t_long0 v_t_value v_t_sign v_t_word v_t_newSongs v_t_newPeople v_t_newForgetsAt v_t_newFillsAt v_t_top v_t_firstValue v_t_lastValue v_t_waiting v_t_depth v_t_acts v_t_isWinter v_t_learntNow v_t_forgottenNow v_t_heardMany v_t_its0 v_t_hasImage v_t_imageActs v_t_imageHeard r_p1 o_p2) H → va_S A s.heap H locs → decode cX12_copies pc = .ok (.return_, 1) → W p l e rm_X12_copies s m args below meth c H locs 0 0 Q (F0 m pc ls [])) (h : gs_it (fun _ _ => none) (f_X12_copies_2 n_p1 n_p2 r_p1) gs_fuel x3 r_p2 = some o_p2) : S_X12_copies_2 p l e s m args below meth c Q a_t a_p1 a_p2 a_t_songLong a_t_firstNote a_t_wit a_t_code a_t_tape a_t_refused a_t_newSongLong a_t_newFirstNote a_t_newWit a_t_newRow a_t_readCode a_t_waits a_t_tested a_t_isTold a_t_rows a_t_ahead a_t_told a_t_pile a_t_common a_t_mostOf a_t_likes a_t_heard a_t_soon a_t_soonAll a_t_imageRow a_t_imageAhead a_t_imageHears n_p1 n_p2 E A v_t_thrown v_t_songs v_t_people v_t_forgetsAt v_t_fillsAt v_t_taped v_t_faultKind v_t_faultPlace v_t_long1 v_t_next0 v_t_sort v_t_place v_t_long0 v_t_value v_t_sign v_t_word v_t_newSongs v_t_newPeople v_t_newForgetsAt v_t_newFillsAt v_t_top v_t_firstValue v_t_lastValue v_t_waiting v_t_depth v_t_acts v_t_isWinter v_t_learntNow v_t_forgottenNow v_t_heardMany v_t_its0 v_t_hasImage v_t_imageActs v_t_imageHeard r_p1 r_p2 x3 :=
  t_X12_copies_2_n X0 hk  hret  gs_fuel x3 r_p2 h
def f_X12_copies (n_p1 : Nat) (n_p2 : Nat) (r_p1 : Nat → Int32) (r_p2 : Nat → Int32) : Option ((Nat → Int32)) :=
  gs_it (fun _ _ => none) (f_X12_copies_2 n_p1 n_p2 r_p1) gs_fuel 0 r_p2
set_option maxHeartbeats 4000000 in
set_option maxRecDepth 100000 in
theorem c_X12_copies (l : Launch) (E : gs_E) (a_t a_p1 a_p2 a_t_songLong a_t_firstNote a_t_wit a_t_code a_t_tape a_t_refused a_t_newSongLong a_t_newFirstNote a_t_newWit a_t_newRow a_t_readCode a_t_waits a_t_tested a_t_isTold a_t_rows a_t_ahead a_t_told a_t_pile a_t_common a_t_mostOf a_t_likes a_t_heard a_t_soon a_t_soonAll a_t_imageRow a_t_imageAhead a_t_imageHears : Nat) (n_p1 n_p2 : Nat) (v_t_thrown : Int32) (v_t_songs : Int32) (v_t_people : Int32) (v_t_forgetsAt : Int32) (v_t_fillsAt : Int32) (v_t_taped : Int32) (v_t_faultKind : Int32) (v_t_faultPlace : Int32) (v_t_long1 : Int32) (v_t_next0 : Int32) (v_t_sort : Int32) (v_t_place : Int32) (v_t_long0 : Int32) (v_t_value : Int32) (v_t_sign : Int32) (v_t_word : Int64) (v_t_newSongs : Int32) (v_t_newPeople : Int32) (v_t_newForgetsAt : Int32) (v_t_newFillsAt : Int32) (v_t_top : Int32) (v_t_firstValue : Int32) (v_t_lastValue : Int32) (v_t_waiting : Int32) (v_t_depth : Int32) (v_t_acts : Int32) (v_t_isWinter : Int32) (v_t_learntNow : Int32) (v_t_forgottenNow : Int32) (v_t_heardMany : Int32) (v_t_its0 : Int32) (v_t_hasImage : Int32) (v_t_imageActs : Int32) (v_t_imageHeard : Int32) (r_p1 : Nat → Int32) (r_p2 : Nat → Int32) (o_p2 : Nat → Int32) (h : f_X12_copies n_p1 n_p2 r_p1 r_p2 = some o_p2) : gs_MW l yX12_copies wsX12_copies rm_X12_copies [.ref a_t, .ref a_p1, .ref a_p2] E (w_X12_copies E a_t a_p1 a_p2 a_t_songLong a_t_firstNote a_t_wit a_t_code a_t_tape a_t_refused a_t_newSongLong a_t_newFirstNote a_t_newWit a_t_newRow a_t_readCode a_t_waits a_t_tested a_t_isTold a_t_rows a_t_ahead a_t_told a_t_pile a_t_common a_t_mostOf a_t_likes a_t_heard a_t_soon a_t_soonAll a_t_imageRow a_t_imageAhead a_t_imageHears n_p1 n_p2 v_t_thrown v_t_songs v_t_people v_t_forgetsAt v_t_fillsAt v_t_taped v_t_faultKind v_t_faultPlace v_t_long1 v_t_next0 v_t_sort v_t_place v_t_long0 v_t_value v_t_sign v_t_word v_t_newSongs v_t_newPeople v_t_newForgetsAt v_t_newFillsAt v_t_top v_t_firstValue v_t_lastValue v_t_waiting v_t_depth v_t_acts v_t_isWinter v_t_learntNow v_t_forgottenNow v_t_heardMany v_t_its0 v_t_hasImage v_t_imageActs v_t_imageHeard r_p1 r_p2) (w_X12_copies E a_t a_p1 a_p2 a_t_songLong a_t_firstNote a_t_wit a_t_code a_t_tape a_t_refused a_t_newSongLong a_t_newFirstNote a_t_newWit a_t_newRow a_t_readCode a_t_waits a_t_tested a_t_isTold a_t_rows a_t_ahead a_t_told a_t_pile a_t_common a_t_mostOf a_t_likes a_t_heard a_t_soon a_t_soonAll a_t_imageRow a_t_imageAhead a_t_imageHears n_p1 n_p2 v_t_thrown v_t_songs v_t_people v_t_forgetsAt v_t_fillsAt v_t_taped v_t_faultKind v_t_faultPlace v_t_long1 v_t_next0 v_t_sort v_t_place v_t_long0 v_t_value v_t_sign v_t_word v_t_newSongs v_t_newPeople v_t_newForgetsAt v_t_newFillsAt v_t_top v_t_firstValue v_t_lastValue v_t_waiting v_t_depth v_t_acts v_t_isWinter v_t_learntNow v_t_forgottenNow v_t_heardMany v_t_its0 v_t_hasImage v_t_imageActs v_t_imageHeard r_p1 o_p2) none := by
  refine Met.ofW (cc := cX12_copies) (maxL := 4) (ret := none) (by decide) rfl ?_
  intro p e s m args below meth c s₁ B hml hv
  obtain ⟨rfl, hP, hk, hD0⟩ := hv
  have X0 : gs_X wsX12_copies cX12_copies RX12 4 none p s m ([.ref a_t, .ref a_p1, .ref a_p2] : List Value).toArray meth c := gs_X.of B hml
  obtain ⟨hx, hb, -, hown, hts, hr, hlk⟩ := id X0
  have hD := (gs_D_self hD0)
  generalize hAe : gs_w (w_X12_copies E a_t a_p1 a_p2 a_t_songLong a_t_firstNote a_t_wit a_t_code a_t_tape a_t_refused a_t_newSongLong a_t_newFirstNote a_t_newWit a_t_newRow a_t_readCode a_t_waits a_t_tested a_t_isTold a_t_rows a_t_ahead a_t_told a_t_pile a_t_common a_t_mostOf a_t_likes a_t_heard a_t_soon a_t_soonAll a_t_imageRow a_t_imageAhead a_t_imageHears n_p1 n_p2 v_t_thrown v_t_songs v_t_people v_t_forgetsAt v_t_fillsAt v_t_taped v_t_faultKind v_t_faultPlace v_t_long1 v_t_next0 v_t_sort v_t_place v_t_long0 v_t_value v_t_sign v_t_word v_t_newSongs v_t_newPeople v_t_newForgetsAt v_t_newFillsAt v_t_top v_t_firstValue v_t_lastValue v_t_waiting v_t_depth v_t_acts v_t_isWinter v_t_learntNow v_t_forgottenNow v_t_heardMany v_t_its0 v_t_hasImage v_t_imageActs v_t_imageHeard r_p1 r_p2) = A at hD ⊢
  have hS : va_S A s.heap s.heap [] := va_S.rf
  have hret : ∀ (H : Heap) (locs : List Loc) (pc : Nat) (ls : Array Slot), va_P E.1 vwCl (w_X12_copies E a_t a_p1 a_p2 a_t_songLong a_t_firstNote a_t_wit a_t_code a_t_tape a_t_refused a_t_newSongLong a_t_newFirstNote a_t_newWit a_t_newRow a_t_readCode a_t_waits a_t_tested a_t_isTold a_t_rows a_t_ahead a_t_told a_t_pile a_t_common a_t_mostOf a_t_likes a_t_heard a_t_soon a_t_soonAll a_t_imageRow a_t_imageAhead a_t_imageHears n_p1 n_p2 v_t_thrown v_t_songs v_t_people v_t_forgetsAt v_t_fillsAt v_t_taped v_t_faultKind v_t_faultPlace v_t_long1 v_t_next0 v_t_sort v_t_place v_t_long0 v_t_value v_t_sign v_t_word v_t_newSongs v_t_newPeople v_t_newForgetsAt v_t_newFillsAt v_t_top v_t_firstValue v_t_lastValue v_t_waiting v_t_depth v_t_acts v_t_isWinter v_t_learntNow v_t_forgottenNow v_t_heardMany v_t_its0 v_t_hasImage v_t_imageActs v_t_imageHeard r_p1 o_p2) H → va_S A s.heap H locs → decode cX12_copies pc = .ok (.return_, 1) → W p l e rm_X12_copies s m ([.ref a_t, .ref a_p1, .ref a_p2] : List Value).toArray below meth c H locs 0 0 (MQ below (gs_QWA E A (w_X12_copies E a_t a_p1 a_p2 a_t_songLong a_t_firstNote a_t_wit a_t_code a_t_tape a_t_refused a_t_newSongLong a_t_newFirstNote a_t_newWit a_t_newRow a_t_readCode a_t_waits a_t_tested a_t_isTold a_t_rows a_t_ahead a_t_told a_t_pile a_t_common a_t_mostOf a_t_likes a_t_heard a_t_soon a_t_soonAll a_t_imageRow a_t_imageAhead a_t_imageHears n_p1 n_p2 v_t_thrown v_t_songs v_t_people v_t_forgetsAt v_t_fillsAt v_t_taped v_t_faultKind v_t_faultPlace v_t_long1 v_t_next0 v_t_sort v_t_place v_t_long0 v_t_value v_t_sign v_t_word v_t_newSongs v_t_newPeople v_t_newForgetsAt v_t_newFillsAt v_t_top v_t_firstValue v_t_lastValue v_t_waiting v_t_depth v_t_acts v_t_isWinter v_t_learntNow v_t_forgottenNow v_t_heardMany v_t_its0 v_t_hasImage v_t_imageActs v_t_imageHeard r_p1 o_p2) none) ([.ref a_t, .ref a_p1, .ref a_p2] : List Value).toArray s 0 0 A) (F0 m pc ls []) := fun H locs pc ls hP hS hd => W.vret hx hb hr (fun t ht hW => ⟨rfl, by rw [ht]; exact hP, hS.F ht⟩) hS.2.2 hd
  have hl := lv_entry ([.ref a_t, .ref a_p1, .ref a_p2]) (n := 4) (Nat.le_of_ble_eq_true rfl)
  rw [lg_entry_eq]
  generalize (lg_sl ([.ref a_t, .ref a_p1, .ref a_p2]) ++ List.replicate (4 - (lg_sl ([.ref a_t, .ref a_p1, .ref a_p2])).length) Slot.unset).toArray = ls at hl ⊢
  have hl : lv_has ls 4 [(0, .ref a_t), (1, .ref a_p1), (2, .ref a_p2)] := hl
  unfold f_X12_copies at h
  refine lv_iconst (v := 0) hx hb dX12_copies_0 (by decide) ?_
  refine lv_istore_n (lv' := [(3, .int 0), (0, .ref a_t), (1, .ref a_p1), (2, .ref a_p2)]) hx hb dX12_copies_1 rfl hl (by decide) rfl (fun ls hl => ?_)
  exact t_X12_copies_2 X0 hk  hret  (h := h) _ _ _ hP hD hS (lv_sub hl [2, 3, 0] rfl)

theorem dX12_bits_0 : decode cX12_bits 0 = .ok (.iconst 0, 1) := by decide +kernel
theorem dX12_bits_1 : decode cX12_bits 1 = .ok (.istore_n 1, 1) := by decide +kernel
theorem dX12_bits_2 : decode cX12_bits 2 = .ok (.iconst 0, 1) := by decide +kernel
theorem dX12_bits_3 : decode cX12_bits 3 = .ok (.istore_n 2, 1) := by decide +kernel
theorem dX12_bits_4 : decode cX12_bits 4 = .ok (.iload_n 2, 1) := by decide +kernel
theorem dX12_bits_5 : decode cX12_bits 5 = .ok (.bipush 8, 2) := by decide +kernel
theorem dX12_bits_7 : decode cX12_bits 7 = .ok (.if_icmp .ge 17, 3) := by decide +kernel
theorem dX12_bits_10 : decode cX12_bits 10 = .ok (.iload_n 1, 1) := by decide +kernel
theorem dX12_bits_11 : decode cX12_bits 11 = .ok (.iload_n 0, 1) := by decide +kernel
theorem dX12_bits_12 : decode cX12_bits 12 = .ok (.iload_n 2, 1) := by decide +kernel
theorem dX12_bits_13 : decode cX12_bits 13 = .ok (.ishr, 1) := by decide +kernel
theorem dX12_bits_14 : decode cX12_bits 14 = .ok (.iconst 1, 1) := by decide +kernel
theorem dX12_bits_15 : decode cX12_bits 15 = .ok (.iand, 1) := by decide +kernel
theorem dX12_bits_16 : decode cX12_bits 16 = .ok (.iadd, 1) := by decide +kernel
theorem dX12_bits_17 : decode cX12_bits 17 = .ok (.istore_n 1, 1) := by decide +kernel
theorem dX12_bits_18 : decode cX12_bits 18 = .ok (.iinc 2 1, 3) := by decide +kernel
theorem dX12_bits_21 : decode cX12_bits 21 = .ok (.goto (-17), 3) := by decide +kernel
theorem dX12_bits_24 : decode cX12_bits 24 = .ok (.iload_n 1, 1) := by decide +kernel
theorem dX12_bits_25 : decode cX12_bits 25 = .ok (.ireturn, 1) := by decide +kernel
abbrev w_X12_bits (E : gs_E) : va_W := []
abbrev rm_X12_bits : Room := { frames := 0, cells := 0, slots := 0, locals := 0 }
def S_X12_bits_4 (p : Program) (l : Launch) (e : Env) (s : State) (m : MethodId) (args : Array Value) (below : List Frame) (meth : Method) (c : Code) (Q : State → Prop) (x0 : Int32) (x1 : Int32) (x2 : Int32) : Prop := ∀ (ls : Array Slot), lv_has ls 3 [(0, .int x0), (1, .int x1), (2, .int x2)] → W p l e rm_X12_bits s m args below meth c s.heap [] 0 0 Q (F0 m 4 ls [])
def f_X12_bits_4 (x0 : Int32) (K4 : Int32 → Int32 → Option (Int32)) (x1 : Int32) (x2 : Int32) : Option (Int32) :=
  if 8 ≤ x2 then
    some x1
  else
    K4 (x1 + ((x0 >>> (x2 &&& 31)) &&& 1)) (x2 + 1)
set_option maxHeartbeats 4000000 in
set_option maxRecDepth 100000 in
theorem t_X12_bits_4_b {p : Program} {l : Launch} {e : Env} {s : State} {m : MethodId} {args : Array Value} {below : List Frame} {meth : Method} {c : Code} {Q : State → Prop} {E : gs_E} {rr : Int32} (X0 : gs_X wsX12_bits cX12_bits RX12 3 (some .int) p s m args meth c) (hk : gs_K E s) (hP : va_P E.1 vwCl (w_X12_bits E ) s.heap) (hD : va_D (fun _ => True) (w_X12_bits E )) {x0 : Int32} {x1 : Int32} {x2 : Int32} (hret : ∀ (pc : Nat) (ls : Array Slot), decode cX12_bits pc = .ok (.ireturn, 1) → W p l e rm_X12_bits s m args below meth c s.heap [] 0 0 Q (F0 m pc ls [.int rr])) {K4 : Int32 → Int32 → Option (Int32)} (hK4 : ∀ (x1 : Int32) (x2 : Int32), K4 x1 x2 = some rr → S_X12_bits_4 p l e s m args below meth c Q  x0 x1 x2) (h : f_X12_bits_4 x0 K4 x1 x2 = some rr) : S_X12_bits_4 p l e s m args below meth c Q  x0 x1 x2 := by
  obtain ⟨hx, hb, hml, hown, hts, hr, hlk⟩ := id X0
  intro ls hl
  unfold f_X12_bits_4 at h
  refine lv_iload_n hx hb dX12_bits_4 rfl (lv_at hl 2 rfl) ?_
  refine lv_bipush (v := 8) hx hb dX12_bits_5 (by decide) ?_
  refine lv_icmp_ge (tgt := 24) hx hb dX12_bits_7 (by decide) (fun c1 => ?_) (fun c1 => ?_)
  · replace h := gs_ift c1 h
    refine lv_iload_n hx hb dX12_bits_24 rfl (lv_at hl 1 rfl) ?_
    have h := Option.some.inj h
    subst h
    exact hret _ _ dX12_bits_25
  · replace h := gs_iff c1 h
    refine lv_iload_n hx hb dX12_bits_10 rfl (lv_at hl 1 rfl) ?_
    refine lv_iload_n hx hb dX12_bits_11 rfl (lv_at hl 0 rfl) ?_
    refine lv_iload_n hx hb dX12_bits_12 rfl (lv_at hl 2 rfl) ?_
    refine lv_ishr hx hb dX12_bits_13 ?_
    refine lv_iconst (v := 1) hx hb dX12_bits_14 (by decide) ?_
    refine lv_iand hx hb dX12_bits_15 ?_
    refine lv_iadd hx hb dX12_bits_16 ?_
    refine lv_istore_n (lv' := [(1, .int (x1 + ((x0 >>> (x2 &&& 31)) &&& 1))), (0, .int x0), (2, .int x2)]) hx hb dX12_bits_17 rfl hl (by decide) rfl (fun ls hl => ?_)
    refine lv_iinc (v := x2 + 1) (lv' := [(2, .int (x2 + 1)), (1, .int (x1 + ((x0 >>> (x2 &&& 31)) &&& 1))), (0, .int x0)]) hx hb dX12_bits_18 hl (k := 2) rfl rfl (by decide) rfl (fun ls hl => ?_)
    refine lv_goto (tgt := 4) hx hb dX12_bits_21 (by decide) ?_
    exact hK4 (x1 + ((x0 >>> (x2 &&& 31)) &&& 1)) (x2 + 1) h _ (lv_sub hl [2, 1, 0] rfl)
set_option maxHeartbeats 4000000 in
set_option maxRecDepth 100000 in
theorem t_X12_bits_4_n {p : Program} {l : Launch} {e : Env} {s : State} {m : MethodId} {args : Array Value} {below : List Frame} {meth : Method} {c : Code} {Q : State → Prop} {E : gs_E} {rr : Int32} (X0 : gs_X wsX12_bits cX12_bits RX12 3 (some .int) p s m args meth c) (hk : gs_K E s) (hP : va_P E.1 vwCl (w_X12_bits E ) s.heap) (hD : va_D (fun _ => True) (w_X12_bits E )) {x0 : Int32} (hret : ∀ (pc : Nat) (ls : Array Slot), decode cX12_bits pc = .ok (.ireturn, 1) → W p l e rm_X12_bits s m args below meth c s.heap [] 0 0 Q (F0 m pc ls [.int rr])) : ∀ (n : Nat) (x1 : Int32) (x2 : Int32), gs_it (fun _ _ => none) (f_X12_bits_4 x0) n x1 x2 = some rr → S_X12_bits_4 p l e s m args below meth c Q  x0 x1 x2 := by
  intro n
  induction n with
  | zero =>
    intro x1 x2 h
    have h : (none : Option (Int32)) = some rr := h
    cases h
  | succ n ih =>
    intro x1 x2 h
    exact t_X12_bits_4_b X0 hk hP hD hret  (K4 := gs_it (fun _ _ => none) (f_X12_bits_4 x0) n) (hK4 := ih) (h := h)
theorem t_X12_bits_4 {p : Program} {l : Launch} {e : Env} {s : State} {m : MethodId} {args : Array Value} {below : List Frame} {meth : Method} {c : Code} {Q : State → Prop} {E : gs_E} {rr : Int32} (X0 : gs_X wsX12_bits cX12_bits RX12 3 (some .int) p s m args meth c) (hk : gs_K E s) (hP : va_P E.1 vwCl (w_X12_bits E ) s.heap) (hD : va_D (fun _ => True) (w_X12_bits E )) {x0 : Int32} {x1 : Int32} {x2 : Int32} (hret : ∀ (pc : Nat) (ls : Array Slot), decode cX12_bits pc = .ok (.ireturn, 1) → W p l e rm_X12_bits s m args below meth c s.heap [] 0 0 Q (F0 m pc ls [.int rr])) (h : gs_it (fun _ _ => none) (f_X12_bits_4 x0) gs_fuel x1 x2 = some rr) : S_X12_bits_4 p l e s m args below meth c Q  x0 x1 x2 :=
  t_X12_bits_4_n X0 hk hP hD hret  gs_fuel x1 x2 h
def f_X12_bits (x0 : Int32) : Option (Int32) :=
  gs_it (fun _ _ => none) (f_X12_bits_4 x0) gs_fuel 0 0
set_option maxHeartbeats 4000000 in
set_option maxRecDepth 100000 in
theorem c_X12_bits (l : Launch) (E : gs_E) (x0 : Int32) (rr : Int32) (h : f_X12_bits x0 = some rr) : gs_MR l yX12_bits wsX12_bits rm_X12_bits [.int x0] E (w_X12_bits E ) (some (.int rr)) := by
  refine Met.ofW (cc := cX12_bits) (maxL := 3) (ret := (some .int)) (by decide) rfl ?_
  intro p e s m args below meth c s₁ B hml hv
  obtain ⟨rfl, hP, hk, hD0⟩ := hv
  have X0 : gs_X wsX12_bits cX12_bits RX12 3 (some .int) p s m ([.int x0] : List Value).toArray meth c := gs_X.of B hml
  obtain ⟨hx, hb, -, hown, hts, hr, hlk⟩ := id X0
  have hD := hD0
  have hret : ∀ (pc : Nat) (ls : Array Slot), decode cX12_bits pc = .ok (.ireturn, 1) → W p l e rm_X12_bits s m ([.int x0] : List Value).toArray below meth c s.heap [] 0 0 (MQ below (gs_QR (some (.int rr))) ([.int x0] : List Value).toArray s 0 0 (fun _ => False)) (F0 m pc ls [.int rr]) := fun pc ls hd => W.iret hx hb hr (fun t ht hW => ⟨rfl, ht⟩) (fun q hq => by cases hq) hd
  have hl := lv_entry ([.int x0]) (n := 3) (Nat.le_of_ble_eq_true rfl)
  rw [lg_entry_eq]
  generalize (lg_sl ([.int x0]) ++ List.replicate (3 - (lg_sl ([.int x0])).length) Slot.unset).toArray = ls at hl ⊢
  have hl : lv_has ls 3 [(0, .int x0)] := hl
  unfold f_X12_bits at h
  refine lv_iconst (v := 0) hx hb dX12_bits_0 (by decide) ?_
  refine lv_istore_n (lv' := [(1, .int 0), (0, .int x0)]) hx hb dX12_bits_1 rfl hl (by decide) rfl (fun ls hl => ?_)
  refine lv_iconst (v := 0) hx hb dX12_bits_2 (by decide) ?_
  refine lv_istore_n (lv' := [(2, .int 0), (1, .int 0), (0, .int x0)]) hx hb dX12_bits_3 rfl hl (by decide) rfl (fun ls hl => ?_)
  exact t_X12_bits_4 X0 hk hP hD hret  (h := h) _ (lv_sub hl [2, 1, 0] rfl)

theorem dX12_lays_0 : decode cX12_lays 0 = .ok (.bipush 24, 2) := by decide +kernel
theorem dX12_lays_2 : decode cX12_lays 2 = .ok (.istore_n 2, 1) := by decide +kernel
theorem dX12_lays_3 : decode cX12_lays 3 = .ok (.iload_n 2, 1) := by decide +kernel
theorem dX12_lays_4 : decode cX12_lays 4 = .ok (.ifCond .lt 35, 3) := by decide +kernel
theorem dX12_lays_7 : decode cX12_lays 7 = .ok (.aload_n 0, 1) := by decide +kernel
theorem dX12_lays_8 : decode cX12_lays 8 = .ok (.getfield 29, 3) := by decide +kernel
theorem dX12_lays_11 : decode cX12_lays 11 = .ok (.aload_n 0, 1) := by decide +kernel
theorem dX12_lays_12 : decode cX12_lays 12 = .ok (.getfield 105, 3) := by decide +kernel
theorem dX12_lays_15 : decode cX12_lays 15 = .ok (.iload_n 1, 1) := by decide +kernel
theorem dX12_lays_16 : decode cX12_lays 16 = .ok (.iload_n 2, 1) := by decide +kernel
theorem dX12_lays_17 : decode cX12_lays 17 = .ok (.ishr, 1) := by decide +kernel
theorem dX12_lays_18 : decode cX12_lays 18 = .ok (.sipush 255, 3) := by decide +kernel
theorem dX12_lays_21 : decode cX12_lays 21 = .ok (.iand, 1) := by decide +kernel
theorem dX12_lays_22 : decode cX12_lays 22 = .ok (.iastore, 1) := by decide +kernel
theorem dX12_lays_23 : decode cX12_lays 23 = .ok (.aload_n 0, 1) := by decide +kernel
theorem dX12_lays_24 : decode cX12_lays 24 = .ok (.dup, 1) := by decide +kernel
theorem dX12_lays_25 : decode cX12_lays 25 = .ok (.getfield 105, 3) := by decide +kernel
theorem dX12_lays_28 : decode cX12_lays 28 = .ok (.iconst 1, 1) := by decide +kernel
theorem dX12_lays_29 : decode cX12_lays 29 = .ok (.iadd, 1) := by decide +kernel
theorem dX12_lays_30 : decode cX12_lays 30 = .ok (.putfield 105, 3) := by decide +kernel
theorem dX12_lays_33 : decode cX12_lays 33 = .ok (.iinc 2 (-8), 3) := by decide +kernel
theorem dX12_lays_36 : decode cX12_lays 36 = .ok (.goto (-33), 3) := by decide +kernel
theorem dX12_lays_39 : decode cX12_lays 39 = .ok (.return_, 1) := by decide +kernel
abbrev w_X12_lays (E : gs_E) (a_t a_t_tape a_t_songLong a_t_firstNote a_t_wit a_t_code a_t_refused a_t_newSongLong a_t_newFirstNote a_t_newWit a_t_newRow a_t_readCode a_t_waits a_t_tested a_t_isTold a_t_rows a_t_ahead a_t_told a_t_pile a_t_common a_t_mostOf a_t_likes a_t_heard a_t_soon a_t_soonAll a_t_imageRow a_t_imageAhead a_t_imageHears : Nat) (v_t_thrown : Int32) (v_t_songs : Int32) (v_t_people : Int32) (v_t_forgetsAt : Int32) (v_t_fillsAt : Int32) (v_t_taped : Int32) (v_t_faultKind : Int32) (v_t_faultPlace : Int32) (v_t_long1 : Int32) (v_t_next0 : Int32) (v_t_sort : Int32) (v_t_place : Int32) (v_t_long0 : Int32) (v_t_value : Int32) (v_t_sign : Int32) (v_t_word : Int64) (v_t_newSongs : Int32) (v_t_newPeople : Int32) (v_t_newForgetsAt : Int32) (v_t_newFillsAt : Int32) (v_t_top : Int32) (v_t_firstValue : Int32) (v_t_lastValue : Int32) (v_t_waiting : Int32) (v_t_depth : Int32) (v_t_acts : Int32) (v_t_isWinter : Int32) (v_t_learntNow : Int32) (v_t_forgottenNow : Int32) (v_t_heardMany : Int32) (v_t_its0 : Int32) (v_t_hasImage : Int32) (v_t_imageActs : Int32) (v_t_imageHeard : Int32) (r_t_tape : Nat → Int32) : va_W := [(a_t, .inr (12, [.int v_t_thrown, .int v_t_songs, .int v_t_people, .int v_t_forgetsAt, .int v_t_fillsAt, .ref a_t_songLong, .ref a_t_firstNote, .ref a_t_wit, .ref a_t_code, .ref a_t_tape, .int v_t_taped, .int v_t_faultKind, .int v_t_faultPlace, .ref a_t_refused, .int v_t_long1, .int v_t_next0, .int v_t_sort, .int v_t_place, .int v_t_long0, .int v_t_value, .int v_t_sign, .long v_t_word, .int v_t_newSongs, .int v_t_newPeople, .int v_t_newForgetsAt, .int v_t_newFillsAt, .int v_t_top, .int v_t_firstValue, .int v_t_lastValue, .int v_t_waiting, .int v_t_depth, .ref a_t_newSongLong, .ref a_t_newFirstNote, .ref a_t_newWit, .ref a_t_newRow, .ref a_t_readCode, .ref a_t_waits, .ref a_t_tested, .ref a_t_isTold, .ref a_t_rows, .ref a_t_ahead, .int v_t_acts, .ref a_t_told, .ref a_t_pile, .int v_t_isWinter, .int v_t_learntNow, .int v_t_forgottenNow, .ref a_t_common, .ref a_t_mostOf, .ref a_t_likes, .int v_t_heardMany, .ref a_t_heard, .ref a_t_soon, .ref a_t_soonAll, .int v_t_its0, .int v_t_hasImage, .int v_t_imageActs, .int v_t_imageHeard, .ref a_t_imageRow, .ref a_t_imageAhead, .ref a_t_imageHears])), (a_t_tape, .inl (E.2.1, 700, .inl r_t_tape))]
abbrev rm_X12_lays : Room := { frames := 0, cells := 0, slots := 0, locals := 0 }
def S_X12_lays_3 (p : Program) (l : Launch) (e : Env) (s : State) (m : MethodId) (args : Array Value) (below : List Frame) (meth : Method) (c : Code) (Q : State → Prop) (a_t a_t_tape a_t_songLong a_t_firstNote a_t_wit a_t_code a_t_refused a_t_newSongLong a_t_newFirstNote a_t_newWit a_t_newRow a_t_readCode a_t_waits a_t_tested a_t_isTold a_t_rows a_t_ahead a_t_told a_t_pile a_t_common a_t_mostOf a_t_likes a_t_heard a_t_soon a_t_soonAll a_t_imageRow a_t_imageAhead a_t_imageHears : Nat) (E : gs_E) (A : Nat → Prop) (v_t_thrown : Int32) (v_t_songs : Int32) (v_t_people : Int32) (v_t_forgetsAt : Int32) (v_t_fillsAt : Int32) (v_t_taped : Int32) (v_t_faultKind : Int32) (v_t_faultPlace : Int32) (v_t_long1 : Int32) (v_t_next0 : Int32) (v_t_sort : Int32) (v_t_place : Int32) (v_t_long0 : Int32) (v_t_value : Int32) (v_t_sign : Int32) (v_t_word : Int64) (v_t_newSongs : Int32) (v_t_newPeople : Int32) (v_t_newForgetsAt : Int32) (v_t_newFillsAt : Int32) (v_t_top : Int32) (v_t_firstValue : Int32) (v_t_lastValue : Int32) (v_t_waiting : Int32) (v_t_depth : Int32) (v_t_acts : Int32) (v_t_isWinter : Int32) (v_t_learntNow : Int32) (v_t_forgottenNow : Int32) (v_t_heardMany : Int32) (v_t_its0 : Int32) (v_t_hasImage : Int32) (v_t_imageActs : Int32) (v_t_imageHeard : Int32) (r_t_tape : Nat → Int32) (x1 : Int32) (x2 : Int32) : Prop := ∀ (H : Heap) (locs : List Loc) (ls : Array Slot), va_P E.1 vwCl (w_X12_lays E a_t a_t_tape a_t_songLong a_t_firstNote a_t_wit a_t_code a_t_refused a_t_newSongLong a_t_newFirstNote a_t_newWit a_t_newRow a_t_readCode a_t_waits a_t_tested a_t_isTold a_t_rows a_t_ahead a_t_told a_t_pile a_t_common a_t_mostOf a_t_likes a_t_heard a_t_soon a_t_soonAll a_t_imageRow a_t_imageAhead a_t_imageHears v_t_thrown v_t_songs v_t_people v_t_forgetsAt v_t_fillsAt v_t_taped v_t_faultKind v_t_faultPlace v_t_long1 v_t_next0 v_t_sort v_t_place v_t_long0 v_t_value v_t_sign v_t_word v_t_newSongs v_t_newPeople v_t_newForgetsAt v_t_newFillsAt v_t_top v_t_firstValue v_t_lastValue v_t_waiting v_t_depth v_t_acts v_t_isWinter v_t_learntNow v_t_forgottenNow v_t_heardMany v_t_its0 v_t_hasImage v_t_imageActs v_t_imageHeard r_t_tape) H → va_D A (w_X12_lays E a_t a_t_tape a_t_songLong a_t_firstNote a_t_wit a_t_code a_t_refused a_t_newSongLong a_t_newFirstNote a_t_newWit a_t_newRow a_t_readCode a_t_waits a_t_tested a_t_isTold a_t_rows a_t_ahead a_t_told a_t_pile a_t_common a_t_mostOf a_t_likes a_t_heard a_t_soon a_t_soonAll a_t_imageRow a_t_imageAhead a_t_imageHears v_t_thrown v_t_songs v_t_people v_t_forgetsAt v_t_fillsAt v_t_taped v_t_faultKind v_t_faultPlace v_t_long1 v_t_next0 v_t_sort v_t_place v_t_long0 v_t_value v_t_sign v_t_word v_t_newSongs v_t_newPeople v_t_newForgetsAt v_t_newFillsAt v_t_top v_t_firstValue v_t_lastValue v_t_waiting v_t_depth v_t_acts v_t_isWinter v_t_learntNow v_t_forgottenNow v_t_heardMany v_t_its0 v_t_hasImage v_t_imageActs v_t_imageHeard r_t_tape) → va_S A s.heap H locs → lv_has ls 3 [(0, .ref a_t), (1, .int x1), (2, .int x2)] → W p l e rm_X12_lays s m args below meth c H locs 0 0 Q (F0 m 3 ls [])
def f_X12_lays_3 (x1 : Int32) (K3 : Int32 → Int32 → (Nat → Int32) → Option (Int32 × (Nat → Int32))) (x2 : Int32) (v_t_taped : Int32) (r_t_tape : Nat → Int32) : Option (Int32 × (Nat → Int32)) :=
  if x2 < 0 then
    some (v_t_taped, r_t_tape)
  else
    gs_gd (gs_in v_t_taped 700) <|
    K3 (x2 + (-8)) (v_t_taped + 1) (upd r_t_tape v_t_taped.toNatClampNeg ((x1 >>> (x2 &&& 31)) &&& 255))
set_option maxHeartbeats 4000000 in
set_option maxRecDepth 100000 in
theorem t_X12_lays_3_b {p : Program} {l : Launch} {e : Env} {s : State} {m : MethodId} {args : Array Value} {below : List Frame} {meth : Method} {c : Code} {Q : State → Prop} {E : gs_E} {A : Nat → Prop} {a_t a_t_tape a_t_songLong a_t_firstNote a_t_wit a_t_code a_t_refused a_t_newSongLong a_t_newFirstNote a_t_newWit a_t_newRow a_t_readCode a_t_waits a_t_tested a_t_isTold a_t_rows a_t_ahead a_t_told a_t_pile a_t_common a_t_mostOf a_t_likes a_t_heard a_t_soon a_t_soonAll a_t_imageRow a_t_imageAhead a_t_imageHears : Nat} {o_t_taped : Int32} {o_t_tape : Nat → Int32} (X0 : gs_X wsX12_lays cX12_lays RX12 3 none p s m args meth c) (hk : gs_K E s) {v_t_thrown : Int32} {v_t_songs : Int32} {v_t_people : Int32} {v_t_forgetsAt : Int32} {v_t_fillsAt : Int32} {v_t_taped : Int32} {v_t_faultKind : Int32} {v_t_faultPlace : Int32} {v_t_long1 : Int32} {v_t_next0 : Int32} {v_t_sort : Int32} {v_t_place : Int32} {v_t_long0 : Int32} {v_t_value : Int32} {v_t_sign : Int32} {v_t_word : Int64} {v_t_newSongs : Int32} {v_t_newPeople : Int32} {v_t_newForgetsAt : Int32} {v_t_newFillsAt : Int32} {v_t_top : Int32} {v_t_firstValue : Int32} {v_t_lastValue : Int32} {v_t_waiting : Int32} {v_t_depth : Int32} {v_t_acts : Int32} {v_t_isWinter : Int32} {v_t_learntNow : Int32} {v_t_forgottenNow : Int32} {v_t_heardMany : Int32} {v_t_its0 : Int32} {v_t_hasImage : Int32} {v_t_imageActs : Int32} {v_t_imageHeard : Int32} {r_t_tape : Nat → Int32} {x1 : Int32} {x2 : Int32} (hret : ∀ (H : Heap) (locs : List Loc) (pc : Nat) (ls : Array Slot), va_P E.1 vwCl (w_X12_lays E a_t a_t_tape a_t_songLong a_t_firstNote a_t_wit a_t_code a_t_refused a_t_newSongLong a_t_newFirstNote a_t_newWit a_t_newRow a_t_readCode a_t_waits a_t_tested a_t_isTold a_t_rows a_t_ahead a_t_told a_t_pile a_t_common a_t_mostOf a_t_likes a_t_heard a_t_soon a_t_soonAll a_t_imageRow a_t_imageAhead a_t_imageHears v_t_thrown v_t_songs v_t_people v_t_forgetsAt v_t_fillsAt o_t_taped v_t_faultKind v_t_faultPlace v_t_long1 v_t_next0 v_t_sort v_t_place v_t_long0 v_t_value v_t_sign v_t_word v_t_newSongs v_t_newPeople v_t_newForgetsAt v_t_newFillsAt v_t_top v_t_firstValue v_t_lastValue v_t_waiting v_t_depth v_t_acts v_t_isWinter v_t_learntNow v_t_forgottenNow v_t_heardMany v_t_its0 v_t_hasImage v_t_imageActs v_t_imageHeard o_t_tape) H → va_S A s.heap H locs → decode cX12_lays pc = .ok (.return_, 1) → W p l e rm_X12_lays s m args below meth c H locs 0 0 Q (F0 m pc ls [])) {K3 : Int32 → Int32 → (Nat → Int32) → Option (Int32 × (Nat → Int32))} (hK3 : ∀ (x2 : Int32) (v_t_taped : Int32) (r_t_tape : Nat → Int32), K3 x2 v_t_taped r_t_tape = some (o_t_taped, o_t_tape) → S_X12_lays_3 p l e s m args below meth c Q a_t a_t_tape a_t_songLong a_t_firstNote a_t_wit a_t_code a_t_refused a_t_newSongLong a_t_newFirstNote a_t_newWit a_t_newRow a_t_readCode a_t_waits a_t_tested a_t_isTold a_t_rows a_t_ahead a_t_told a_t_pile a_t_common a_t_mostOf a_t_likes a_t_heard a_t_soon a_t_soonAll a_t_imageRow a_t_imageAhead a_t_imageHears E A v_t_thrown v_t_songs v_t_people v_t_forgetsAt v_t_fillsAt v_t_taped v_t_faultKind v_t_faultPlace v_t_long1 v_t_next0 v_t_sort v_t_place v_t_long0 v_t_value v_t_sign v_t_word v_t_newSongs v_t_newPeople v_t_newForgetsAt v_t_newFillsAt v_t_top v_t_firstValue v_t_lastValue v_t_waiting v_t_depth v_t_acts v_t_isWinter v_t_learntNow v_t_forgottenNow v_t_heardMany v_t_its0 v_t_hasImage v_t_imageActs v_t_imageHeard r_t_tape x1 x2) (h : f_X12_lays_3 x1 K3 x2 v_t_taped r_t_tape = some (o_t_taped, o_t_tape)) : S_X12_lays_3 p l e s m args below meth c Q a_t a_t_tape a_t_songLong a_t_firstNote a_t_wit a_t_code a_t_refused a_t_newSongLong a_t_newFirstNote a_t_newWit a_t_newRow a_t_readCode a_t_waits a_t_tested a_t_isTold a_t_rows a_t_ahead a_t_told a_t_pile a_t_common a_t_mostOf a_t_likes a_t_heard a_t_soon a_t_soonAll a_t_imageRow a_t_imageAhead a_t_imageHears E A v_t_thrown v_t_songs v_t_people v_t_forgetsAt v_t_fillsAt v_t_taped v_t_faultKind v_t_faultPlace v_t_long1 v_t_next0 v_t_sort v_t_place v_t_long0 v_t_value v_t_sign v_t_word v_t_newSongs v_t_newPeople v_t_newForgetsAt v_t_newFillsAt v_t_top v_t_firstValue v_t_lastValue v_t_waiting v_t_depth v_t_acts v_t_isWinter v_t_learntNow v_t_forgottenNow v_t_heardMany v_t_its0 v_t_hasImage v_t_imageActs v_t_imageHeard r_t_tape x1 x2 := by
  obtain ⟨hx, hb, hml, hown, hts, hr, hlk⟩ := id X0
  intro H locs ls hP hD hS hl
  unfold f_X12_lays_3 at h
  refine lv_iload_n hx hb dX12_lays_3 rfl (lv_at hl 2 rfl) ?_
  refine lv_if_lt (tgt := 39) hx hb dX12_lays_4 (by decide) (fun c1 => ?_) (fun c1 => ?_)
  · replace h := gs_ift c1 h
    have h := Option.some.inj h
    obtain ⟨w0, h⟩ := Prod.mk.inj h
    subst h
    subst w0
    exact hret _ _ _ _ hP hS dX12_lays_39
  · replace h := gs_iff c1 h
    refine lv_aload_n hx hb dX12_lays_7 rfl (lv_at hl 0 rfl) ?_
    refine va_get (D := E.1) (ci := 12) (v := .ref a_t_tape) (C := RX12) (T := TX12) (N := 61) hx hb hts (fun _ h => (List.mem_cons_of_mem _ (List.mem_append_right _ h))) hown hk.1 hP 0 rfl rfl 9 (by decide) (hts (.fieldLink RX12 29 "GapSongsModel" "tape" "[I") (List.mem_cons_of_mem _ (List.mem_append_left _ (List.mem_of_getElem? (i := 0) rfl)))) (fun _ h9 => h9) rfl dX12_lays_8 ?_
    refine lv_aload_n hx hb dX12_lays_11 rfl (lv_at hl 0 rfl) ?_
    refine va_get (D := E.1) (ci := 12) (v := .int v_t_taped) (C := RX12) (T := TX12) (N := 61) hx hb hts (fun _ h => (List.mem_cons_of_mem _ (List.mem_append_right _ h))) hown hk.1 hP 0 rfl rfl 10 (by decide) (hts (.fieldLink RX12 105 "GapSongsModel" "taped" "I") (List.mem_cons_of_mem _ (List.mem_append_left _ (List.mem_of_getElem? (i := 1) rfl)))) (fun _ h9 => h9) rfl dX12_lays_12 ?_
    refine lv_iload_n hx hb dX12_lays_15 rfl (lv_at hl 1 rfl) ?_
    refine lv_iload_n hx hb dX12_lays_16 rfl (lv_at hl 2 rfl) ?_
    refine lv_ishr hx hb dX12_lays_17 ?_
    refine lv_sipush (v := 255) hx hb dX12_lays_18 (by decide) ?_
    refine lv_iand hx hb dX12_lays_21 ?_
    obtain ⟨g2, h⟩ := gs_gd_e h
    refine va_iast hx hb hk.1 hP hD hS 1 0 rfl rfl (gs_in_e g2) dX12_lays_22 (fun H locs hP hD hS => ?_)
    have hP : va_P E.1 vwCl (w_X12_lays E a_t a_t_tape a_t_songLong a_t_firstNote a_t_wit a_t_code a_t_refused a_t_newSongLong a_t_newFirstNote a_t_newWit a_t_newRow a_t_readCode a_t_waits a_t_tested a_t_isTold a_t_rows a_t_ahead a_t_told a_t_pile a_t_common a_t_mostOf a_t_likes a_t_heard a_t_soon a_t_soonAll a_t_imageRow a_t_imageAhead a_t_imageHears v_t_thrown v_t_songs v_t_people v_t_forgetsAt v_t_fillsAt v_t_taped v_t_faultKind v_t_faultPlace v_t_long1 v_t_next0 v_t_sort v_t_place v_t_long0 v_t_value v_t_sign v_t_word v_t_newSongs v_t_newPeople v_t_newForgetsAt v_t_newFillsAt v_t_top v_t_firstValue v_t_lastValue v_t_waiting v_t_depth v_t_acts v_t_isWinter v_t_learntNow v_t_forgottenNow v_t_heardMany v_t_its0 v_t_hasImage v_t_imageActs v_t_imageHeard (upd r_t_tape v_t_taped.toNatClampNeg ((x1 >>> (x2 &&& 31)) &&& 255))) H := hP
    have hD : va_D A (w_X12_lays E a_t a_t_tape a_t_songLong a_t_firstNote a_t_wit a_t_code a_t_refused a_t_newSongLong a_t_newFirstNote a_t_newWit a_t_newRow a_t_readCode a_t_waits a_t_tested a_t_isTold a_t_rows a_t_ahead a_t_told a_t_pile a_t_common a_t_mostOf a_t_likes a_t_heard a_t_soon a_t_soonAll a_t_imageRow a_t_imageAhead a_t_imageHears v_t_thrown v_t_songs v_t_people v_t_forgetsAt v_t_fillsAt v_t_taped v_t_faultKind v_t_faultPlace v_t_long1 v_t_next0 v_t_sort v_t_place v_t_long0 v_t_value v_t_sign v_t_word v_t_newSongs v_t_newPeople v_t_newForgetsAt v_t_newFillsAt v_t_top v_t_firstValue v_t_lastValue v_t_waiting v_t_depth v_t_acts v_t_isWinter v_t_learntNow v_t_forgottenNow v_t_heardMany v_t_its0 v_t_hasImage v_t_imageActs v_t_imageHeard (upd r_t_tape v_t_taped.toNatClampNeg ((x1 >>> (x2 &&& 31)) &&& 255))) := hD
    refine lv_aload_n hx hb dX12_lays_23 rfl (lv_at hl 0 rfl) ?_
    refine lv_dup hx hb dX12_lays_24 rfl ?_
    refine va_get (D := E.1) (ci := 12) (v := .int v_t_taped) (C := RX12) (T := TX12) (N := 61) hx hb hts (fun _ h => (List.mem_cons_of_mem _ (List.mem_append_right _ h))) hown hk.1 hP 0 rfl rfl 10 (by decide) (hts (.fieldLink RX12 105 "GapSongsModel" "taped" "I") (List.mem_cons_of_mem _ (List.mem_append_left _ (List.mem_of_getElem? (i := 1) rfl)))) (fun _ h9 => h9) rfl dX12_lays_25 ?_
    refine lv_iconst (v := 1) hx hb dX12_lays_28 (by decide) ?_
    refine lv_iadd hx hb dX12_lays_29 ?_
    refine va_put (D := E.1) (ci := 12) (v := .int (v_t_taped + 1)) (ty := .int) (C := RX12) (T := TX12) (N := 61) hx hb hts (fun _ h => (List.mem_cons_of_mem _ (List.mem_append_right _ h))) tyX12 tyX12_ok nmX12 hown hk.1 hP hD hS 0 rfl rfl 10 (by decide) (hts (.fieldLink RX12 105 "GapSongsModel" "taped" "I") (List.mem_cons_of_mem _ (List.mem_append_left _ (List.mem_of_getElem? (i := 1) rfl)))) (fun _ h9 => h9) rfl (by decide +kernel) rfl rfl (Nat.le_of_ble_eq_true rfl) dX12_lays_30 (fun H locs hP hD hS => ?_)
    have hP : va_P E.1 vwCl (w_X12_lays E a_t a_t_tape a_t_songLong a_t_firstNote a_t_wit a_t_code a_t_refused a_t_newSongLong a_t_newFirstNote a_t_newWit a_t_newRow a_t_readCode a_t_waits a_t_tested a_t_isTold a_t_rows a_t_ahead a_t_told a_t_pile a_t_common a_t_mostOf a_t_likes a_t_heard a_t_soon a_t_soonAll a_t_imageRow a_t_imageAhead a_t_imageHears v_t_thrown v_t_songs v_t_people v_t_forgetsAt v_t_fillsAt (v_t_taped + 1) v_t_faultKind v_t_faultPlace v_t_long1 v_t_next0 v_t_sort v_t_place v_t_long0 v_t_value v_t_sign v_t_word v_t_newSongs v_t_newPeople v_t_newForgetsAt v_t_newFillsAt v_t_top v_t_firstValue v_t_lastValue v_t_waiting v_t_depth v_t_acts v_t_isWinter v_t_learntNow v_t_forgottenNow v_t_heardMany v_t_its0 v_t_hasImage v_t_imageActs v_t_imageHeard (upd r_t_tape v_t_taped.toNatClampNeg ((x1 >>> (x2 &&& 31)) &&& 255))) H := hP
    have hD : va_D A (w_X12_lays E a_t a_t_tape a_t_songLong a_t_firstNote a_t_wit a_t_code a_t_refused a_t_newSongLong a_t_newFirstNote a_t_newWit a_t_newRow a_t_readCode a_t_waits a_t_tested a_t_isTold a_t_rows a_t_ahead a_t_told a_t_pile a_t_common a_t_mostOf a_t_likes a_t_heard a_t_soon a_t_soonAll a_t_imageRow a_t_imageAhead a_t_imageHears v_t_thrown v_t_songs v_t_people v_t_forgetsAt v_t_fillsAt (v_t_taped + 1) v_t_faultKind v_t_faultPlace v_t_long1 v_t_next0 v_t_sort v_t_place v_t_long0 v_t_value v_t_sign v_t_word v_t_newSongs v_t_newPeople v_t_newForgetsAt v_t_newFillsAt v_t_top v_t_firstValue v_t_lastValue v_t_waiting v_t_depth v_t_acts v_t_isWinter v_t_learntNow v_t_forgottenNow v_t_heardMany v_t_its0 v_t_hasImage v_t_imageActs v_t_imageHeard (upd r_t_tape v_t_taped.toNatClampNeg ((x1 >>> (x2 &&& 31)) &&& 255))) := hD
    refine lv_iinc (v := x2 + (-8)) (lv' := [(2, .int (x2 + (-8))), (0, .ref a_t), (1, .int x1)]) hx hb dX12_lays_33 hl (k := 2) rfl rfl (by decide) rfl (fun ls hl => ?_)
    refine lv_goto (tgt := 3) hx hb dX12_lays_36 (by decide) ?_
    exact hK3 (x2 + (-8)) (v_t_taped + 1) (upd r_t_tape v_t_taped.toNatClampNeg ((x1 >>> (x2 &&& 31)) &&& 255)) h _ _ _ hP hD hS (lv_sub hl [1, 2, 0] rfl)
set_option maxHeartbeats 4000000 in
set_option maxRecDepth 100000 in
theorem t_X12_lays_3_n {p : Program} {l : Launch} {e : Env} {s : State} {m : MethodId} {args : Array Value} {below : List Frame} {meth : Method} {c : Code} {Q : State → Prop} {E : gs_E} {A : Nat → Prop} {a_t a_t_tape a_t_songLong a_t_firstNote a_t_wit a_t_code a_t_refused a_t_newSongLong a_t_newFirstNote a_t_newWit a_t_newRow a_t_readCode a_t_waits a_t_tested a_t_isTold a_t_rows a_t_ahead a_t_told a_t_pile a_t_common a_t_mostOf a_t_likes a_t_heard a_t_soon a_t_soonAll a_t_imageRow a_t_imageAhead a_t_imageHears : Nat} {o_t_taped : Int32} {o_t_tape : Nat → Int32} (X0 : gs_X wsX12_lays cX12_lays RX12 3 none p s m args meth c) (hk : gs_K E s) {v_t_thrown : Int32} {v_t_songs : Int32} {v_t_people : Int32} {v_t_forgetsAt : Int32} {v_t_fillsAt : Int32} {v_t_faultKind : Int32} {v_t_faultPlace : Int32} {v_t_long1 : Int32} {v_t_next0 : Int32} {v_t_sort : Int32} {v_t_place : Int32} {v_t_long0 : Int32} {v_t_value : Int32} {v_t_sign : Int32} {v_t_word : Int64} {v_t_newSongs : Int32} {v_t_newPeople : Int32} {v_t_newForgetsAt : Int32} {v_t_newFillsAt : Int32} {v_t_top : Int32} {v_t_firstValue : Int32} {v_t_lastValue : Int32} {v_t_waiting : Int32} {v_t_depth : Int32} {v_t_acts : Int32} {v_t_isWinter : Int32} {v_t_learntNow : Int32} {v_t_forgottenNow : Int32} {v_t_heardMany : Int32} {v_t_its0 : Int32} {v_t_hasImage : Int32} {v_t_imageActs : Int32} {v_t_imageHeard : Int32} {x1 : Int32} (hret : ∀ (H : Heap) (locs : List Loc) (pc : Nat) (ls : Array Slot), va_P E.1 vwCl (w_X12_lays E a_t a_t_tape a_t_songLong a_t_firstNote a_t_wit a_t_code a_t_refused a_t_newSongLong a_t_newFirstNote a_t_newWit a_t_newRow a_t_readCode a_t_waits a_t_tested a_t_isTold a_t_rows a_t_ahead a_t_told a_t_pile a_t_common a_t_mostOf a_t_likes a_t_heard a_t_soon a_t_soonAll a_t_imageRow a_t_imageAhead a_t_imageHears v_t_thrown v_t_songs v_t_people v_t_forgetsAt v_t_fillsAt o_t_taped v_t_faultKind v_t_faultPlace v_t_long1 v_t_next0 v_t_sort v_t_place v_t_long0 v_t_value v_t_sign v_t_word v_t_newSongs v_t_newPeople v_t_newForgetsAt v_t_newFillsAt v_t_top v_t_firstValue v_t_lastValue v_t_waiting v_t_depth v_t_acts v_t_isWinter v_t_learntNow v_t_forgottenNow v_t_heardMany v_t_its0 v_t_hasImage v_t_imageActs v_t_imageHeard o_t_tape) H → va_S A s.heap H locs → decode cX12_lays pc = .ok (.return_, 1) → W p l e rm_X12_lays s m args below meth c H locs 0 0 Q (F0 m pc ls [])) : ∀ (n : Nat) (x2 : Int32) (v_t_taped : Int32) (r_t_tape : Nat → Int32), gs_it (fun _ _ _ => none) (f_X12_lays_3 x1) n x2 v_t_taped r_t_tape = some (o_t_taped, o_t_tape) → S_X12_lays_3 p l e s m args below meth c Q a_t a_t_tape a_t_songLong a_t_firstNote a_t_wit a_t_code a_t_refused a_t_newSongLong a_t_newFirstNote a_t_newWit a_t_newRow a_t_readCode a_t_waits a_t_tested a_t_isTold a_t_rows a_t_ahead a_t_told a_t_pile a_t_common a_t_mostOf a_t_likes a_t_heard a_t_soon a_t_soonAll a_t_imageRow a_t_imageAhead a_t_imageHears E A v_t_thrown v_t_songs v_t_people v_t_forgetsAt v_t_fillsAt v_t_taped v_t_faultKind v_t_faultPlace v_t_long1 v_t_next0 v_t_sort v_t_place v_t_long0 v_t_value v_t_sign v_t_word v_t_newSongs v_t_newPeople v_t_newForgetsAt v_t_newFillsAt v_t_top v_t_firstValue v_t_lastValue v_t_waiting v_t_depth v_t_acts v_t_isWinter v_t_learntNow v_t_forgottenNow v_t_heardMany v_t_its0 v_t_hasImage v_t_imageActs v_t_imageHeard r_t_tape x1 x2 := by
  intro n
  induction n with
  | zero =>
    intro x2 v_t_taped r_t_tape h
    have h : (none : Option (Int32 × (Nat → Int32))) = some (o_t_taped, o_t_tape) := h
    cases h
  | succ n ih =>
    intro x2 v_t_taped r_t_tape h
    exact t_X12_lays_3_b X0 hk  hret  (K3 := gs_it (fun _ _ _ => none) (f_X12_lays_3 x1) n) (hK3 := ih) (h := h)
theorem t_X12_lays_3 {p : Program} {l : Launch} {e : Env} {s : State} {m : MethodId} {args : Array Value} {below : List Frame} {meth : Method} {c : Code} {Q : State → Prop} {E : gs_E} {A : Nat → Prop} {a_t a_t_tape a_t_songLong a_t_firstNote a_t_wit a_t_code a_t_refused a_t_newSongLong a_t_newFirstNote a_t_newWit a_t_newRow a_t_readCode a_t_waits a_t_tested a_t_isTold a_t_rows a_t_ahead a_t_told a_t_pile a_t_common a_t_mostOf a_t_likes a_t_heard a_t_soon a_t_soonAll a_t_imageRow a_t_imageAhead a_t_imageHears : Nat} {o_t_taped : Int32} {o_t_tape : Nat → Int32} (X0 : gs_X wsX12_lays cX12_lays RX12 3 none p s m args meth c) (hk : gs_K E s) {v_t_thrown : Int32} {v_t_songs : Int32} {v_t_people : Int32} {v_t_forgetsAt : Int32} {v_t_fillsAt : Int32} {v_t_taped : Int32} {v_t_faultKind : Int32} {v_t_faultPlace : Int32} {v_t_long1 : Int32} {v_t_next0 : Int32} {v_t_sort : Int32} {v_t_place : Int32} {v_t_long0 : Int32} {v_t_value : Int32} {v_t_sign : Int32} {v_t_word : Int64} {v_t_newSongs : Int32} {v_t_newPeople : Int32} {v_t_newForgetsAt : Int32} {v_t_newFillsAt : Int32} {v_t_top : Int32} {v_t_firstValue : Int32} {v_t_lastValue : Int32} {v_t_waiting : Int32} {v_t_depth : Int32} {v_t_acts : Int32} {v_t_isWinter : Int32} {v_t_learntNow : Int32} {v_t_forgottenNow : Int32} {v_t_heardMany : Int32} {v_t_its0 : Int32} {v_t_hasImage : Int32} {v_t_imageActs : Int32} {v_t_imageHeard : Int32} {r_t_tape : Nat → Int32} {x1 : Int32} {x2 : Int32} (hret : ∀ (H : Heap) (locs : List Loc) (pc : Nat) (ls : Array Slot), va_P E.1 vwCl (w_X12_lays E a_t a_t_tape a_t_songLong a_t_firstNote a_t_wit a_t_code a_t_refused a_t_newSongLong a_t_newFirstNote a_t_newWit a_t_newRow a_t_readCode a_t_waits a_t_tested a_t_isTold a_t_rows a_t_ahead a_t_told a_t_pile a_t_common a_t_mostOf a_t_likes a_t_heard a_t_soon a_t_soonAll a_t_imageRow a_t_imageAhead a_t_imageHears v_t_thrown v_t_songs v_t_people v_t_forgetsAt v_t_fillsAt o_t_taped v_t_faultKind v_t_faultPlace v_t_long1 v_t_next0 v_t_sort v_t_place v_t_long0 v_t_value v_t_sign v_t_word v_t_newSongs v_t_newPeople v_t_newForgetsAt v_t_newFillsAt v_t_top v_t_firstValue v_t_lastValue v_t_waiting v_t_depth v_t_acts v_t_isWinter v_t_learntNow v_t_forgottenNow v_t_heardMany v_t_its0 v_t_hasImage v_t_imageActs v_t_imageHeard o_t_tape) H → va_S A s.heap H locs → decode cX12_lays pc = .ok (.return_, 1) → W p l e rm_X12_lays s m args below meth c H locs 0 0 Q (F0 m pc ls [])) (h : gs_it (fun _ _ _ => none) (f_X12_lays_3 x1) gs_fuel x2 v_t_taped r_t_tape = some (o_t_taped, o_t_tape)) : S_X12_lays_3 p l e s m args below meth c Q a_t a_t_tape a_t_songLong a_t_firstNote a_t_wit a_t_code a_t_refused a_t_newSongLong a_t_newFirstNote a_t_newWit a_t_newRow a_t_readCode a_t_waits a_t_tested a_t_isTold a_t_rows a_t_ahead a_t_told a_t_pile a_t_common a_t_mostOf a_t_likes a_t_heard a_t_soon a_t_soonAll a_t_imageRow a_t_imageAhead a_t_imageHears E A v_t_thrown v_t_songs v_t_people v_t_forgetsAt v_t_fillsAt v_t_taped v_t_faultKind v_t_faultPlace v_t_long1 v_t_next0 v_t_sort v_t_place v_t_long0 v_t_value v_t_sign v_t_word v_t_newSongs v_t_newPeople v_t_newForgetsAt v_t_newFillsAt v_t_top v_t_firstValue v_t_lastValue v_t_waiting v_t_depth v_t_acts v_t_isWinter v_t_learntNow v_t_forgottenNow v_t_heardMany v_t_its0 v_t_hasImage v_t_imageActs v_t_imageHeard r_t_tape x1 x2 :=
  t_X12_lays_3_n X0 hk  hret  gs_fuel x2 v_t_taped r_t_tape h
def f_X12_lays (x1 : Int32) (v_t_taped : Int32) (r_t_tape : Nat → Int32) : Option (Int32 × (Nat → Int32)) :=
  gs_it (fun _ _ _ => none) (f_X12_lays_3 x1) gs_fuel 24 v_t_taped r_t_tape
set_option maxHeartbeats 4000000 in
set_option maxRecDepth 100000 in
theorem c_X12_lays (l : Launch) (E : gs_E) (a_t a_t_tape a_t_songLong a_t_firstNote a_t_wit a_t_code a_t_refused a_t_newSongLong a_t_newFirstNote a_t_newWit a_t_newRow a_t_readCode a_t_waits a_t_tested a_t_isTold a_t_rows a_t_ahead a_t_told a_t_pile a_t_common a_t_mostOf a_t_likes a_t_heard a_t_soon a_t_soonAll a_t_imageRow a_t_imageAhead a_t_imageHears : Nat) (v_t_thrown : Int32) (v_t_songs : Int32) (v_t_people : Int32) (v_t_forgetsAt : Int32) (v_t_fillsAt : Int32) (v_t_taped : Int32) (v_t_faultKind : Int32) (v_t_faultPlace : Int32) (v_t_long1 : Int32) (v_t_next0 : Int32) (v_t_sort : Int32) (v_t_place : Int32) (v_t_long0 : Int32) (v_t_value : Int32) (v_t_sign : Int32) (v_t_word : Int64) (v_t_newSongs : Int32) (v_t_newPeople : Int32) (v_t_newForgetsAt : Int32) (v_t_newFillsAt : Int32) (v_t_top : Int32) (v_t_firstValue : Int32) (v_t_lastValue : Int32) (v_t_waiting : Int32) (v_t_depth : Int32) (v_t_acts : Int32) (v_t_isWinter : Int32) (v_t_learntNow : Int32) (v_t_forgottenNow : Int32) (v_t_heardMany : Int32) (v_t_its0 : Int32) (v_t_hasImage : Int32) (v_t_imageActs : Int32) (v_t_imageHeard : Int32) (r_t_tape : Nat → Int32) (x1 : Int32) (o_t_taped : Int32) (o_t_tape : Nat → Int32) (h : f_X12_lays x1 v_t_taped r_t_tape = some (o_t_taped, o_t_tape)) : gs_MW l yX12_lays wsX12_lays rm_X12_lays [.ref a_t, .int x1] E (w_X12_lays E a_t a_t_tape a_t_songLong a_t_firstNote a_t_wit a_t_code a_t_refused a_t_newSongLong a_t_newFirstNote a_t_newWit a_t_newRow a_t_readCode a_t_waits a_t_tested a_t_isTold a_t_rows a_t_ahead a_t_told a_t_pile a_t_common a_t_mostOf a_t_likes a_t_heard a_t_soon a_t_soonAll a_t_imageRow a_t_imageAhead a_t_imageHears v_t_thrown v_t_songs v_t_people v_t_forgetsAt v_t_fillsAt v_t_taped v_t_faultKind v_t_faultPlace v_t_long1 v_t_next0 v_t_sort v_t_place v_t_long0 v_t_value v_t_sign v_t_word v_t_newSongs v_t_newPeople v_t_newForgetsAt v_t_newFillsAt v_t_top v_t_firstValue v_t_lastValue v_t_waiting v_t_depth v_t_acts v_t_isWinter v_t_learntNow v_t_forgottenNow v_t_heardMany v_t_its0 v_t_hasImage v_t_imageActs v_t_imageHeard r_t_tape) (w_X12_lays E a_t a_t_tape a_t_songLong a_t_firstNote a_t_wit a_t_code a_t_refused a_t_newSongLong a_t_newFirstNote a_t_newWit a_t_newRow a_t_readCode a_t_waits a_t_tested a_t_isTold a_t_rows a_t_ahead a_t_told a_t_pile a_t_common a_t_mostOf a_t_likes a_t_heard a_t_soon a_t_soonAll a_t_imageRow a_t_imageAhead a_t_imageHears v_t_thrown v_t_songs v_t_people v_t_forgetsAt v_t_fillsAt o_t_taped v_t_faultKind v_t_faultPlace v_t_long1 v_t_next0 v_t_sort v_t_place v_t_long0 v_t_value v_t_sign v_t_word v_t_newSongs v_t_newPeople v_t_newForgetsAt v_t_newFillsAt v_t_top v_t_firstValue v_t_lastValue v_t_waiting v_t_depth v_t_acts v_t_isWinter v_t_learntNow v_t_forgottenNow v_t_heardMany v_t_its0 v_t_hasImage v_t_imageActs v_t_imageHeard o_t_tape) none := by
  refine Met.ofW (cc := cX12_lays) (maxL := 3) (ret := none) (by decide) rfl ?_
  intro p e s m args below meth c s₁ B hml hv
  obtain ⟨rfl, hP, hk, hD0⟩ := hv
  have X0 : gs_X wsX12_lays cX12_lays RX12 3 none p s m ([.ref a_t, .int x1] : List Value).toArray meth c := gs_X.of B hml
  obtain ⟨hx, hb, -, hown, hts, hr, hlk⟩ := id X0
  have hD := (gs_D_self hD0)
  generalize hAe : gs_w (w_X12_lays E a_t a_t_tape a_t_songLong a_t_firstNote a_t_wit a_t_code a_t_refused a_t_newSongLong a_t_newFirstNote a_t_newWit a_t_newRow a_t_readCode a_t_waits a_t_tested a_t_isTold a_t_rows a_t_ahead a_t_told a_t_pile a_t_common a_t_mostOf a_t_likes a_t_heard a_t_soon a_t_soonAll a_t_imageRow a_t_imageAhead a_t_imageHears v_t_thrown v_t_songs v_t_people v_t_forgetsAt v_t_fillsAt v_t_taped v_t_faultKind v_t_faultPlace v_t_long1 v_t_next0 v_t_sort v_t_place v_t_long0 v_t_value v_t_sign v_t_word v_t_newSongs v_t_newPeople v_t_newForgetsAt v_t_newFillsAt v_t_top v_t_firstValue v_t_lastValue v_t_waiting v_t_depth v_t_acts v_t_isWinter v_t_learntNow v_t_forgottenNow v_t_heardMany v_t_its0 v_t_hasImage v_t_imageActs v_t_imageHeard r_t_tape) = A at hD ⊢
  have hS : va_S A s.heap s.heap [] := va_S.rf
  have hret : ∀ (H : Heap) (locs : List Loc) (pc : Nat) (ls : Array Slot), va_P E.1 vwCl (w_X12_lays E a_t a_t_tape a_t_songLong a_t_firstNote a_t_wit a_t_code a_t_refused a_t_newSongLong a_t_newFirstNote a_t_newWit a_t_newRow a_t_readCode a_t_waits a_t_tested a_t_isTold a_t_rows a_t_ahead a_t_told a_t_pile a_t_common a_t_mostOf a_t_likes a_t_heard a_t_soon a_t_soonAll a_t_imageRow a_t_imageAhead a_t_imageHears v_t_thrown v_t_songs v_t_people v_t_forgetsAt v_t_fillsAt o_t_taped v_t_faultKind v_t_faultPlace v_t_long1 v_t_next0 v_t_sort v_t_place v_t_long0 v_t_value v_t_sign v_t_word v_t_newSongs v_t_newPeople v_t_newForgetsAt v_t_newFillsAt v_t_top v_t_firstValue v_t_lastValue v_t_waiting v_t_depth v_t_acts v_t_isWinter v_t_learntNow v_t_forgottenNow v_t_heardMany v_t_its0 v_t_hasImage v_t_imageActs v_t_imageHeard o_t_tape) H → va_S A s.heap H locs → decode cX12_lays pc = .ok (.return_, 1) → W p l e rm_X12_lays s m ([.ref a_t, .int x1] : List Value).toArray below meth c H locs 0 0 (MQ below (gs_QWA E A (w_X12_lays E a_t a_t_tape a_t_songLong a_t_firstNote a_t_wit a_t_code a_t_refused a_t_newSongLong a_t_newFirstNote a_t_newWit a_t_newRow a_t_readCode a_t_waits a_t_tested a_t_isTold a_t_rows a_t_ahead a_t_told a_t_pile a_t_common a_t_mostOf a_t_likes a_t_heard a_t_soon a_t_soonAll a_t_imageRow a_t_imageAhead a_t_imageHears v_t_thrown v_t_songs v_t_people v_t_forgetsAt v_t_fillsAt o_t_taped v_t_faultKind v_t_faultPlace v_t_long1 v_t_next0 v_t_sort v_t_place v_t_long0 v_t_value v_t_sign v_t_word v_t_newSongs v_t_newPeople v_t_newForgetsAt v_t_newFillsAt v_t_top v_t_firstValue v_t_lastValue v_t_waiting v_t_depth v_t_acts v_t_isWinter v_t_learntNow v_t_forgottenNow v_t_heardMany v_t_its0 v_t_hasImage v_t_imageActs v_t_imageHeard o_t_tape) none) ([.ref a_t, .int x1] : List Value).toArray s 0 0 A) (F0 m pc ls []) := fun H locs pc ls hP hS hd => W.vret hx hb hr (fun t ht hW => ⟨rfl, by rw [ht]; exact hP, hS.F ht⟩) hS.2.2 hd
  have hl := lv_entry ([.ref a_t, .int x1]) (n := 3) (Nat.le_of_ble_eq_true rfl)
  rw [lg_entry_eq]
  generalize (lg_sl ([.ref a_t, .int x1]) ++ List.replicate (3 - (lg_sl ([.ref a_t, .int x1])).length) Slot.unset).toArray = ls at hl ⊢
  have hl : lv_has ls 3 [(0, .ref a_t), (1, .int x1)] := hl
  unfold f_X12_lays at h
  refine lv_bipush (v := 24) hx hb dX12_lays_0 (by decide) ?_
  refine lv_istore_n (lv' := [(2, .int 24), (0, .ref a_t), (1, .int x1)]) hx hb dX12_lays_2 rfl hl (by decide) rfl (fun ls hl => ?_)
  exact t_X12_lays_3 X0 hk  hret  (h := h) _ _ _ hP hD hS (lv_sub hl [1, 2, 0] rfl)

set_option maxRecDepth 100000 in
theorem ggX12_feed_X12_lays : GoodIn wsX12_feed wsX12_lays := goodIn_r _ [7, 8, 2, 9, 10, 11, 12, 13, 14, 15, 16, 17, 18, 19, 20, 21, 22, 23, 24, 25, 26, 27, 28, 29, 30, 31, 32, 33, 34, 35, 36, 37, 38, 39, 40, 41, 42, 43, 44, 45, 46, 47, 48, 49, 50, 51, 52, 53, 54, 55, 56, 57, 58, 59, 60, 61, 62, 63, 64, 65, 66, 67, 68, 69] rfl (by decide +kernel)
set_option maxRecDepth 100000 in
theorem gX12_feed_X12_lays : GoodIn wsX12_feed (wsV RX12 108 RX12 yX12_lays wsX12_lays) := goodIn_app (goodIn_of _ (by decide +kernel)) ggX12_feed_X12_lays
theorem dX12_feed_0 : decode cX12_feed 0 = .ok (.aload_n 0, 1) := by decide +kernel
theorem dX12_feed_1 : decode cX12_feed 1 = .ok (.iconst 0, 1) := by decide +kernel
theorem dX12_feed_2 : decode cX12_feed 2 = .ok (.putfield 102, 3) := by decide +kernel
theorem dX12_feed_5 : decode cX12_feed 5 = .ok (.aload_n 0, 1) := by decide +kernel
theorem dX12_feed_6 : decode cX12_feed 6 = .ok (.getfield 105, 3) := by decide +kernel
theorem dX12_feed_9 : decode cX12_feed 9 = .ok (.bipush 20, 2) := by decide +kernel
theorem dX12_feed_11 : decode cX12_feed 11 = .ok (.iadd, 1) := by decide +kernel
theorem dX12_feed_12 : decode cX12_feed 12 = .ok (.sipush 700, 3) := by decide +kernel
theorem dX12_feed_15 : decode cX12_feed 15 = .ok (.if_icmp .le 5, 3) := by decide +kernel
theorem dX12_feed_18 : decode cX12_feed 18 = .ok (.iconst (-1), 1) := by decide +kernel
theorem dX12_feed_19 : decode cX12_feed 19 = .ok (.ireturn, 1) := by decide +kernel
theorem dX12_feed_20 : decode cX12_feed 20 = .ok (.aload_n 0, 1) := by decide +kernel
theorem dX12_feed_21 : decode cX12_feed 21 = .ok (.iload_n 1, 1) := by decide +kernel
theorem dX12_feed_22 : decode cX12_feed 22 = .ok (.invokevirtual 108, 3) := by decide +kernel
theorem dX12_feed_25 : decode cX12_feed 25 = .ok (.aload_n 0, 1) := by decide +kernel
theorem dX12_feed_26 : decode cX12_feed 26 = .ok (.iload_n 2, 1) := by decide +kernel
theorem dX12_feed_27 : decode cX12_feed 27 = .ok (.invokevirtual 108, 3) := by decide +kernel
theorem dX12_feed_30 : decode cX12_feed 30 = .ok (.aload_n 0, 1) := by decide +kernel
theorem dX12_feed_31 : decode cX12_feed 31 = .ok (.iload_n 3, 1) := by decide +kernel
theorem dX12_feed_32 : decode cX12_feed 32 = .ok (.invokevirtual 108, 3) := by decide +kernel
theorem dX12_feed_35 : decode cX12_feed 35 = .ok (.aload_n 0, 1) := by decide +kernel
theorem dX12_feed_36 : decode cX12_feed 36 = .ok (.iload 4, 2) := by decide +kernel
theorem dX12_feed_38 : decode cX12_feed 38 = .ok (.invokevirtual 108, 3) := by decide +kernel
theorem dX12_feed_41 : decode cX12_feed 41 = .ok (.aload_n 0, 1) := by decide +kernel
theorem dX12_feed_42 : decode cX12_feed 42 = .ok (.iload 5, 2) := by decide +kernel
theorem dX12_feed_44 : decode cX12_feed 44 = .ok (.invokevirtual 108, 3) := by decide +kernel
theorem dX12_feed_47 : decode cX12_feed 47 = .ok (.aload_n 0, 1) := by decide +kernel
theorem dX12_feed_48 : decode cX12_feed 48 = .ok (.getfield 105, 3) := by decide +kernel
theorem dX12_feed_51 : decode cX12_feed 51 = .ok (.ireturn, 1) := by decide +kernel
abbrev w_X12_feed (E : gs_E) (a_t a_t_tape a_t_songLong a_t_firstNote a_t_wit a_t_code a_t_refused a_t_newSongLong a_t_newFirstNote a_t_newWit a_t_newRow a_t_readCode a_t_waits a_t_tested a_t_isTold a_t_rows a_t_ahead a_t_told a_t_pile a_t_common a_t_mostOf a_t_likes a_t_heard a_t_soon a_t_soonAll a_t_imageRow a_t_imageAhead a_t_imageHears : Nat) (v_t_thrown : Int32) (v_t_songs : Int32) (v_t_people : Int32) (v_t_forgetsAt : Int32) (v_t_fillsAt : Int32) (v_t_taped : Int32) (v_t_faultKind : Int32) (v_t_faultPlace : Int32) (v_t_long1 : Int32) (v_t_next0 : Int32) (v_t_sort : Int32) (v_t_place : Int32) (v_t_long0 : Int32) (v_t_value : Int32) (v_t_sign : Int32) (v_t_word : Int64) (v_t_newSongs : Int32) (v_t_newPeople : Int32) (v_t_newForgetsAt : Int32) (v_t_newFillsAt : Int32) (v_t_top : Int32) (v_t_firstValue : Int32) (v_t_lastValue : Int32) (v_t_waiting : Int32) (v_t_depth : Int32) (v_t_acts : Int32) (v_t_isWinter : Int32) (v_t_learntNow : Int32) (v_t_forgottenNow : Int32) (v_t_heardMany : Int32) (v_t_its0 : Int32) (v_t_hasImage : Int32) (v_t_imageActs : Int32) (v_t_imageHeard : Int32) (r_t_tape : Nat → Int32) : va_W := [(a_t, .inr (12, [.int v_t_thrown, .int v_t_songs, .int v_t_people, .int v_t_forgetsAt, .int v_t_fillsAt, .ref a_t_songLong, .ref a_t_firstNote, .ref a_t_wit, .ref a_t_code, .ref a_t_tape, .int v_t_taped, .int v_t_faultKind, .int v_t_faultPlace, .ref a_t_refused, .int v_t_long1, .int v_t_next0, .int v_t_sort, .int v_t_place, .int v_t_long0, .int v_t_value, .int v_t_sign, .long v_t_word, .int v_t_newSongs, .int v_t_newPeople, .int v_t_newForgetsAt, .int v_t_newFillsAt, .int v_t_top, .int v_t_firstValue, .int v_t_lastValue, .int v_t_waiting, .int v_t_depth, .ref a_t_newSongLong, .ref a_t_newFirstNote, .ref a_t_newWit, .ref a_t_newRow, .ref a_t_readCode, .ref a_t_waits, .ref a_t_tested, .ref a_t_isTold, .ref a_t_rows, .ref a_t_ahead, .int v_t_acts, .ref a_t_told, .ref a_t_pile, .int v_t_isWinter, .int v_t_learntNow, .int v_t_forgottenNow, .ref a_t_common, .ref a_t_mostOf, .ref a_t_likes, .int v_t_heardMany, .ref a_t_heard, .ref a_t_soon, .ref a_t_soonAll, .int v_t_its0, .int v_t_hasImage, .int v_t_imageActs, .int v_t_imageHeard, .ref a_t_imageRow, .ref a_t_imageAhead, .ref a_t_imageHears])), (a_t_tape, .inl (E.2.1, 700, .inl r_t_tape))]
abbrev rm_X12_feed : Room := { frames := 1, cells := 0, slots := 0, locals := 22 }
def f_X12_feed (x1 : Int32) (x2 : Int32) (x3 : Int32) (x4 : Int32) (x5 : Int32) (v_t_thrown : Int32) (v_t_taped : Int32) (r_t_tape : Nat → Int32) : Option (Int32 × Int32 × Int32 × (Nat → Int32)) :=
  if (v_t_taped + 20) ≤ 700 then
    gs_b2 (f_X12_lays x1 v_t_taped r_t_tape) fun o2_0 o2_1 =>
    gs_b2 (f_X12_lays x2 o2_0 o2_1) fun o3_0 o3_1 =>
    gs_b2 (f_X12_lays x3 o3_0 o3_1) fun o4_0 o4_1 =>
    gs_b2 (f_X12_lays x4 o4_0 o4_1) fun o5_0 o5_1 =>
    gs_b2 (f_X12_lays x5 o5_0 o5_1) fun o6_0 o6_1 =>
    some (o6_0, 0, o6_0, o6_1)
  else
    some ((-1), 0, v_t_taped, r_t_tape)
set_option maxHeartbeats 4000000 in
set_option maxRecDepth 100000 in
theorem c_X12_feed (l : Launch) (E : gs_E) (a_t a_t_tape a_t_songLong a_t_firstNote a_t_wit a_t_code a_t_refused a_t_newSongLong a_t_newFirstNote a_t_newWit a_t_newRow a_t_readCode a_t_waits a_t_tested a_t_isTold a_t_rows a_t_ahead a_t_told a_t_pile a_t_common a_t_mostOf a_t_likes a_t_heard a_t_soon a_t_soonAll a_t_imageRow a_t_imageAhead a_t_imageHears : Nat) (v_t_thrown : Int32) (v_t_songs : Int32) (v_t_people : Int32) (v_t_forgetsAt : Int32) (v_t_fillsAt : Int32) (v_t_taped : Int32) (v_t_faultKind : Int32) (v_t_faultPlace : Int32) (v_t_long1 : Int32) (v_t_next0 : Int32) (v_t_sort : Int32) (v_t_place : Int32) (v_t_long0 : Int32) (v_t_value : Int32) (v_t_sign : Int32) (v_t_word : Int64) (v_t_newSongs : Int32) (v_t_newPeople : Int32) (v_t_newForgetsAt : Int32) (v_t_newFillsAt : Int32) (v_t_top : Int32) (v_t_firstValue : Int32) (v_t_lastValue : Int32) (v_t_waiting : Int32) (v_t_depth : Int32) (v_t_acts : Int32) (v_t_isWinter : Int32) (v_t_learntNow : Int32) (v_t_forgottenNow : Int32) (v_t_heardMany : Int32) (v_t_its0 : Int32) (v_t_hasImage : Int32) (v_t_imageActs : Int32) (v_t_imageHeard : Int32) (r_t_tape : Nat → Int32) (x1 : Int32) (x2 : Int32) (x3 : Int32) (x4 : Int32) (x5 : Int32) (rr : Int32) (o_t_thrown : Int32) (o_t_taped : Int32) (o_t_tape : Nat → Int32) (h : f_X12_feed x1 x2 x3 x4 x5 v_t_thrown v_t_taped r_t_tape = some (rr, o_t_thrown, o_t_taped, o_t_tape)) : gs_MW l yX12_feed wsX12_feed rm_X12_feed [.ref a_t, .int x1, .int x2, .int x3, .int x4, .int x5] E (w_X12_feed E a_t a_t_tape a_t_songLong a_t_firstNote a_t_wit a_t_code a_t_refused a_t_newSongLong a_t_newFirstNote a_t_newWit a_t_newRow a_t_readCode a_t_waits a_t_tested a_t_isTold a_t_rows a_t_ahead a_t_told a_t_pile a_t_common a_t_mostOf a_t_likes a_t_heard a_t_soon a_t_soonAll a_t_imageRow a_t_imageAhead a_t_imageHears v_t_thrown v_t_songs v_t_people v_t_forgetsAt v_t_fillsAt v_t_taped v_t_faultKind v_t_faultPlace v_t_long1 v_t_next0 v_t_sort v_t_place v_t_long0 v_t_value v_t_sign v_t_word v_t_newSongs v_t_newPeople v_t_newForgetsAt v_t_newFillsAt v_t_top v_t_firstValue v_t_lastValue v_t_waiting v_t_depth v_t_acts v_t_isWinter v_t_learntNow v_t_forgottenNow v_t_heardMany v_t_its0 v_t_hasImage v_t_imageActs v_t_imageHeard r_t_tape) (w_X12_feed E a_t a_t_tape a_t_songLong a_t_firstNote a_t_wit a_t_code a_t_refused a_t_newSongLong a_t_newFirstNote a_t_newWit a_t_newRow a_t_readCode a_t_waits a_t_tested a_t_isTold a_t_rows a_t_ahead a_t_told a_t_pile a_t_common a_t_mostOf a_t_likes a_t_heard a_t_soon a_t_soonAll a_t_imageRow a_t_imageAhead a_t_imageHears o_t_thrown v_t_songs v_t_people v_t_forgetsAt v_t_fillsAt o_t_taped v_t_faultKind v_t_faultPlace v_t_long1 v_t_next0 v_t_sort v_t_place v_t_long0 v_t_value v_t_sign v_t_word v_t_newSongs v_t_newPeople v_t_newForgetsAt v_t_newFillsAt v_t_top v_t_firstValue v_t_lastValue v_t_waiting v_t_depth v_t_acts v_t_isWinter v_t_learntNow v_t_forgottenNow v_t_heardMany v_t_its0 v_t_hasImage v_t_imageActs v_t_imageHeard o_t_tape) (some (.int rr)) := by
  refine Met.ofW (cc := cX12_feed) (maxL := 6) (ret := (some .int)) (by decide) rfl ?_
  intro p e s m args below meth c s₁ B hml hv
  obtain ⟨rfl, hP, hk, hD0⟩ := hv
  have X0 : gs_X wsX12_feed cX12_feed RX12 6 (some .int) p s m ([.ref a_t, .int x1, .int x2, .int x3, .int x4, .int x5] : List Value).toArray meth c := gs_X.of B hml
  obtain ⟨hx, hb, -, hown, hts, hr, hlk⟩ := id X0
  have hD := (gs_D_self hD0)
  generalize hAe : gs_w (w_X12_feed E a_t a_t_tape a_t_songLong a_t_firstNote a_t_wit a_t_code a_t_refused a_t_newSongLong a_t_newFirstNote a_t_newWit a_t_newRow a_t_readCode a_t_waits a_t_tested a_t_isTold a_t_rows a_t_ahead a_t_told a_t_pile a_t_common a_t_mostOf a_t_likes a_t_heard a_t_soon a_t_soonAll a_t_imageRow a_t_imageAhead a_t_imageHears v_t_thrown v_t_songs v_t_people v_t_forgetsAt v_t_fillsAt v_t_taped v_t_faultKind v_t_faultPlace v_t_long1 v_t_next0 v_t_sort v_t_place v_t_long0 v_t_value v_t_sign v_t_word v_t_newSongs v_t_newPeople v_t_newForgetsAt v_t_newFillsAt v_t_top v_t_firstValue v_t_lastValue v_t_waiting v_t_depth v_t_acts v_t_isWinter v_t_learntNow v_t_forgottenNow v_t_heardMany v_t_its0 v_t_hasImage v_t_imageActs v_t_imageHeard r_t_tape) = A at hD ⊢
  have hS : va_S A s.heap s.heap [] := va_S.rf
  have hret : ∀ (H : Heap) (locs : List Loc) (pc : Nat) (ls : Array Slot), va_P E.1 vwCl (w_X12_feed E a_t a_t_tape a_t_songLong a_t_firstNote a_t_wit a_t_code a_t_refused a_t_newSongLong a_t_newFirstNote a_t_newWit a_t_newRow a_t_readCode a_t_waits a_t_tested a_t_isTold a_t_rows a_t_ahead a_t_told a_t_pile a_t_common a_t_mostOf a_t_likes a_t_heard a_t_soon a_t_soonAll a_t_imageRow a_t_imageAhead a_t_imageHears o_t_thrown v_t_songs v_t_people v_t_forgetsAt v_t_fillsAt o_t_taped v_t_faultKind v_t_faultPlace v_t_long1 v_t_next0 v_t_sort v_t_place v_t_long0 v_t_value v_t_sign v_t_word v_t_newSongs v_t_newPeople v_t_newForgetsAt v_t_newFillsAt v_t_top v_t_firstValue v_t_lastValue v_t_waiting v_t_depth v_t_acts v_t_isWinter v_t_learntNow v_t_forgottenNow v_t_heardMany v_t_its0 v_t_hasImage v_t_imageActs v_t_imageHeard o_t_tape) H → va_S A s.heap H locs → decode cX12_feed pc = .ok (.ireturn, 1) → W p l e rm_X12_feed s m ([.ref a_t, .int x1, .int x2, .int x3, .int x4, .int x5] : List Value).toArray below meth c H locs 0 0 (MQ below (gs_QWA E A (w_X12_feed E a_t a_t_tape a_t_songLong a_t_firstNote a_t_wit a_t_code a_t_refused a_t_newSongLong a_t_newFirstNote a_t_newWit a_t_newRow a_t_readCode a_t_waits a_t_tested a_t_isTold a_t_rows a_t_ahead a_t_told a_t_pile a_t_common a_t_mostOf a_t_likes a_t_heard a_t_soon a_t_soonAll a_t_imageRow a_t_imageAhead a_t_imageHears o_t_thrown v_t_songs v_t_people v_t_forgetsAt v_t_fillsAt o_t_taped v_t_faultKind v_t_faultPlace v_t_long1 v_t_next0 v_t_sort v_t_place v_t_long0 v_t_value v_t_sign v_t_word v_t_newSongs v_t_newPeople v_t_newForgetsAt v_t_newFillsAt v_t_top v_t_firstValue v_t_lastValue v_t_waiting v_t_depth v_t_acts v_t_isWinter v_t_learntNow v_t_forgottenNow v_t_heardMany v_t_its0 v_t_hasImage v_t_imageActs v_t_imageHeard o_t_tape) (some (.int rr))) ([.ref a_t, .int x1, .int x2, .int x3, .int x4, .int x5] : List Value).toArray s 0 0 A) (F0 m pc ls [.int rr]) := fun H locs pc ls hP hS hd => W.iret hx hb hr (fun t ht hW => ⟨rfl, by rw [ht]; exact hP, hS.F ht⟩) hS.2.2 hd
  have hl := lv_entry ([.ref a_t, .int x1, .int x2, .int x3, .int x4, .int x5]) (n := 6) (Nat.le_of_ble_eq_true rfl)
  rw [lg_entry_eq]
  generalize (lg_sl ([.ref a_t, .int x1, .int x2, .int x3, .int x4, .int x5]) ++ List.replicate (6 - (lg_sl ([.ref a_t, .int x1, .int x2, .int x3, .int x4, .int x5])).length) Slot.unset).toArray = ls at hl ⊢
  have hl : lv_has ls 6 [(0, .ref a_t), (1, .int x1), (2, .int x2), (3, .int x3), (4, .int x4), (5, .int x5)] := hl
  unfold f_X12_feed at h
  refine lv_aload_n hx hb dX12_feed_0 rfl (lv_at hl 0 rfl) ?_
  refine lv_iconst (v := 0) hx hb dX12_feed_1 (by decide) ?_
  refine va_put (D := E.1) (ci := 12) (v := .int 0) (ty := .int) (C := RX12) (T := TX12) (N := 61) hx hb hts (fun _ h => (List.mem_cons_of_mem _ (List.mem_append_right _ h))) tyX12 tyX12_ok nmX12 hown hk.1 hP hD hS 0 rfl rfl 0 (by decide) (hts (.fieldLink RX12 102 "GapSongsModel" "thrown" "I") (List.mem_cons_of_mem _ (List.mem_append_left _ (List.mem_of_getElem? (i := 0) rfl)))) (fun _ h9 => h9) rfl (by decide +kernel) rfl rfl (Nat.le_of_ble_eq_true rfl) dX12_feed_2 (fun H locs hP hD hS => ?_)
  have hP : va_P E.1 vwCl (w_X12_feed E a_t a_t_tape a_t_songLong a_t_firstNote a_t_wit a_t_code a_t_refused a_t_newSongLong a_t_newFirstNote a_t_newWit a_t_newRow a_t_readCode a_t_waits a_t_tested a_t_isTold a_t_rows a_t_ahead a_t_told a_t_pile a_t_common a_t_mostOf a_t_likes a_t_heard a_t_soon a_t_soonAll a_t_imageRow a_t_imageAhead a_t_imageHears 0 v_t_songs v_t_people v_t_forgetsAt v_t_fillsAt v_t_taped v_t_faultKind v_t_faultPlace v_t_long1 v_t_next0 v_t_sort v_t_place v_t_long0 v_t_value v_t_sign v_t_word v_t_newSongs v_t_newPeople v_t_newForgetsAt v_t_newFillsAt v_t_top v_t_firstValue v_t_lastValue v_t_waiting v_t_depth v_t_acts v_t_isWinter v_t_learntNow v_t_forgottenNow v_t_heardMany v_t_its0 v_t_hasImage v_t_imageActs v_t_imageHeard r_t_tape) H := hP
  have hD : va_D A (w_X12_feed E a_t a_t_tape a_t_songLong a_t_firstNote a_t_wit a_t_code a_t_refused a_t_newSongLong a_t_newFirstNote a_t_newWit a_t_newRow a_t_readCode a_t_waits a_t_tested a_t_isTold a_t_rows a_t_ahead a_t_told a_t_pile a_t_common a_t_mostOf a_t_likes a_t_heard a_t_soon a_t_soonAll a_t_imageRow a_t_imageAhead a_t_imageHears 0 v_t_songs v_t_people v_t_forgetsAt v_t_fillsAt v_t_taped v_t_faultKind v_t_faultPlace v_t_long1 v_t_next0 v_t_sort v_t_place v_t_long0 v_t_value v_t_sign v_t_word v_t_newSongs v_t_newPeople v_t_newForgetsAt v_t_newFillsAt v_t_top v_t_firstValue v_t_lastValue v_t_waiting v_t_depth v_t_acts v_t_isWinter v_t_learntNow v_t_forgottenNow v_t_heardMany v_t_its0 v_t_hasImage v_t_imageActs v_t_imageHeard r_t_tape) := hD
  refine lv_aload_n hx hb dX12_feed_5 rfl (lv_at hl 0 rfl) ?_
  refine va_get (D := E.1) (ci := 12) (v := .int v_t_taped) (C := RX12) (T := TX12) (N := 61) hx hb hts (fun _ h => (List.mem_cons_of_mem _ (List.mem_append_right _ h))) hown hk.1 hP 0 rfl rfl 10 (by decide) (hts (.fieldLink RX12 105 "GapSongsModel" "taped" "I") (List.mem_cons_of_mem _ (List.mem_append_left _ (List.mem_of_getElem? (i := 1) rfl)))) (fun _ h9 => h9) rfl dX12_feed_6 ?_
  refine lv_bipush (v := 20) hx hb dX12_feed_9 (by decide) ?_
  refine lv_iadd hx hb dX12_feed_11 ?_
  refine lv_sipush (v := 700) hx hb dX12_feed_12 (by decide) ?_
  refine lv_icmp_le (tgt := 20) hx hb dX12_feed_15 (by decide) (fun c1 => ?_) (fun c1 => ?_)
  · replace h := gs_ift c1 h
    refine lv_aload_n hx hb dX12_feed_20 rfl (lv_at hl 0 rfl) ?_
    refine lv_iload_n hx hb dX12_feed_21 rfl (lv_at hl 1 rfl) ?_
    obtain ⟨o2_0, o2_1, hz2, h⟩ := gs_b2_e h
    refine gs_backWv (ws1 := (w_X12_feed E a_t a_t_tape a_t_songLong a_t_firstNote a_t_wit a_t_code a_t_refused a_t_newSongLong a_t_newFirstNote a_t_newWit a_t_newRow a_t_readCode a_t_waits a_t_tested a_t_isTold a_t_rows a_t_ahead a_t_told a_t_pile a_t_common a_t_mostOf a_t_likes a_t_heard a_t_soon a_t_soonAll a_t_imageRow a_t_imageAhead a_t_imageHears 0 v_t_songs v_t_people v_t_forgetsAt v_t_fillsAt o2_0 v_t_faultKind v_t_faultPlace v_t_long1 v_t_next0 v_t_sort v_t_place v_t_long0 v_t_value v_t_sign v_t_word v_t_newSongs v_t_newPeople v_t_newForgetsAt v_t_newFillsAt v_t_top v_t_firstValue v_t_lastValue v_t_waiting v_t_depth v_t_acts v_t_isWinter v_t_learntNow v_t_forgottenNow v_t_heardMany v_t_its0 v_t_hasImage v_t_imageActs v_t_imageHeard o2_1)) (va_runV (As := [.int x1]) (rest := []) ⟨hx, hb, hml, hown, hts⟩ (c_X12_lays l E a_t a_t_tape a_t_songLong a_t_firstNote a_t_wit a_t_code a_t_refused a_t_newSongLong a_t_newFirstNote a_t_newWit a_t_newRow a_t_readCode a_t_waits a_t_tested a_t_isTold a_t_rows a_t_ahead a_t_told a_t_pile a_t_common a_t_mostOf a_t_likes a_t_heard a_t_soon a_t_soonAll a_t_imageRow a_t_imageAhead a_t_imageHears 0 v_t_songs v_t_people v_t_forgetsAt v_t_fillsAt v_t_taped v_t_faultKind v_t_faultPlace v_t_long1 v_t_next0 v_t_sort v_t_place v_t_long0 v_t_value v_t_sign v_t_word v_t_newSongs v_t_newPeople v_t_newForgetsAt v_t_newFillsAt v_t_top v_t_firstValue v_t_lastValue v_t_waiting v_t_depth v_t_acts v_t_isWinter v_t_learntNow v_t_forgottenNow v_t_heardMany v_t_its0 v_t_hasImage v_t_imageActs v_t_imageHeard r_t_tape x1 o2_0 o2_1 hz2) (cwV 1 hts gX12_feed_X12_lays rfl rfl rfl (by decide +kernel) ⟨Nat.le_of_ble_eq_true rfl, Nat.le_of_ble_eq_true rfl⟩) (gs_preV (ci := 12) hk hP hD (is := [0, 1]) rfl rfl rfl rfl) rfl rfl hl.1 rfl (lv_room (Nat.le_of_ble_eq_true rfl)) dX12_feed_22 ⟨Nat.zero_le _, Nat.zero_le _⟩) hP hD hS [0, 1] rfl rfl rfl rfl (fun H locs hP hD hS => ?_)
    refine lv_aload_n hx hb dX12_feed_25 rfl (lv_at hl 0 rfl) ?_
    refine lv_iload_n hx hb dX12_feed_26 rfl (lv_at hl 2 rfl) ?_
    obtain ⟨o3_0, o3_1, hz3, h⟩ := gs_b2_e h
    refine gs_backWv (ws1 := (w_X12_feed E a_t a_t_tape a_t_songLong a_t_firstNote a_t_wit a_t_code a_t_refused a_t_newSongLong a_t_newFirstNote a_t_newWit a_t_newRow a_t_readCode a_t_waits a_t_tested a_t_isTold a_t_rows a_t_ahead a_t_told a_t_pile a_t_common a_t_mostOf a_t_likes a_t_heard a_t_soon a_t_soonAll a_t_imageRow a_t_imageAhead a_t_imageHears 0 v_t_songs v_t_people v_t_forgetsAt v_t_fillsAt o3_0 v_t_faultKind v_t_faultPlace v_t_long1 v_t_next0 v_t_sort v_t_place v_t_long0 v_t_value v_t_sign v_t_word v_t_newSongs v_t_newPeople v_t_newForgetsAt v_t_newFillsAt v_t_top v_t_firstValue v_t_lastValue v_t_waiting v_t_depth v_t_acts v_t_isWinter v_t_learntNow v_t_forgottenNow v_t_heardMany v_t_its0 v_t_hasImage v_t_imageActs v_t_imageHeard o3_1)) (va_runV (As := [.int x2]) (rest := []) ⟨hx, hb, hml, hown, hts⟩ (c_X12_lays l E a_t a_t_tape a_t_songLong a_t_firstNote a_t_wit a_t_code a_t_refused a_t_newSongLong a_t_newFirstNote a_t_newWit a_t_newRow a_t_readCode a_t_waits a_t_tested a_t_isTold a_t_rows a_t_ahead a_t_told a_t_pile a_t_common a_t_mostOf a_t_likes a_t_heard a_t_soon a_t_soonAll a_t_imageRow a_t_imageAhead a_t_imageHears 0 v_t_songs v_t_people v_t_forgetsAt v_t_fillsAt o2_0 v_t_faultKind v_t_faultPlace v_t_long1 v_t_next0 v_t_sort v_t_place v_t_long0 v_t_value v_t_sign v_t_word v_t_newSongs v_t_newPeople v_t_newForgetsAt v_t_newFillsAt v_t_top v_t_firstValue v_t_lastValue v_t_waiting v_t_depth v_t_acts v_t_isWinter v_t_learntNow v_t_forgottenNow v_t_heardMany v_t_its0 v_t_hasImage v_t_imageActs v_t_imageHeard o2_1 x2 o3_0 o3_1 hz3) (cwV 1 hts gX12_feed_X12_lays rfl rfl rfl (by decide +kernel) ⟨Nat.le_of_ble_eq_true rfl, Nat.le_of_ble_eq_true rfl⟩) (gs_preV (ci := 12) hk hP hD (is := [0, 1]) rfl rfl rfl rfl) rfl rfl hl.1 rfl (lv_room (Nat.le_of_ble_eq_true rfl)) dX12_feed_27 ⟨Nat.zero_le _, Nat.zero_le _⟩) hP hD hS [0, 1] rfl rfl rfl rfl (fun H locs hP hD hS => ?_)
    refine lv_aload_n hx hb dX12_feed_30 rfl (lv_at hl 0 rfl) ?_
    refine lv_iload_n hx hb dX12_feed_31 rfl (lv_at hl 3 rfl) ?_
    obtain ⟨o4_0, o4_1, hz4, h⟩ := gs_b2_e h
    refine gs_backWv (ws1 := (w_X12_feed E a_t a_t_tape a_t_songLong a_t_firstNote a_t_wit a_t_code a_t_refused a_t_newSongLong a_t_newFirstNote a_t_newWit a_t_newRow a_t_readCode a_t_waits a_t_tested a_t_isTold a_t_rows a_t_ahead a_t_told a_t_pile a_t_common a_t_mostOf a_t_likes a_t_heard a_t_soon a_t_soonAll a_t_imageRow a_t_imageAhead a_t_imageHears 0 v_t_songs v_t_people v_t_forgetsAt v_t_fillsAt o4_0 v_t_faultKind v_t_faultPlace v_t_long1 v_t_next0 v_t_sort v_t_place v_t_long0 v_t_value v_t_sign v_t_word v_t_newSongs v_t_newPeople v_t_newForgetsAt v_t_newFillsAt v_t_top v_t_firstValue v_t_lastValue v_t_waiting v_t_depth v_t_acts v_t_isWinter v_t_learntNow v_t_forgottenNow v_t_heardMany v_t_its0 v_t_hasImage v_t_imageActs v_t_imageHeard o4_1)) (va_runV (As := [.int x3]) (rest := []) ⟨hx, hb, hml, hown, hts⟩ (c_X12_lays l E a_t a_t_tape a_t_songLong a_t_firstNote a_t_wit a_t_code a_t_refused a_t_newSongLong a_t_newFirstNote a_t_newWit a_t_newRow a_t_readCode a_t_waits a_t_tested a_t_isTold a_t_rows a_t_ahead a_t_told a_t_pile a_t_common a_t_mostOf a_t_likes a_t_heard a_t_soon a_t_soonAll a_t_imageRow a_t_imageAhead a_t_imageHears 0 v_t_songs v_t_people v_t_forgetsAt v_t_fillsAt o3_0 v_t_faultKind v_t_faultPlace v_t_long1 v_t_next0 v_t_sort v_t_place v_t_long0 v_t_value v_t_sign v_t_word v_t_newSongs v_t_newPeople v_t_newForgetsAt v_t_newFillsAt v_t_top v_t_firstValue v_t_lastValue v_t_waiting v_t_depth v_t_acts v_t_isWinter v_t_learntNow v_t_forgottenNow v_t_heardMany v_t_its0 v_t_hasImage v_t_imageActs v_t_imageHeard o3_1 x3 o4_0 o4_1 hz4) (cwV 1 hts gX12_feed_X12_lays rfl rfl rfl (by decide +kernel) ⟨Nat.le_of_ble_eq_true rfl, Nat.le_of_ble_eq_true rfl⟩) (gs_preV (ci := 12) hk hP hD (is := [0, 1]) rfl rfl rfl rfl) rfl rfl hl.1 rfl (lv_room (Nat.le_of_ble_eq_true rfl)) dX12_feed_32 ⟨Nat.zero_le _, Nat.zero_le _⟩) hP hD hS [0, 1] rfl rfl rfl rfl (fun H locs hP hD hS => ?_)
    refine lv_aload_n hx hb dX12_feed_35 rfl (lv_at hl 0 rfl) ?_
    refine lv_iload hx hb dX12_feed_36 (lv_at hl 4 rfl) ?_
    obtain ⟨o5_0, o5_1, hz5, h⟩ := gs_b2_e h
    refine gs_backWv (ws1 := (w_X12_feed E a_t a_t_tape a_t_songLong a_t_firstNote a_t_wit a_t_code a_t_refused a_t_newSongLong a_t_newFirstNote a_t_newWit a_t_newRow a_t_readCode a_t_waits a_t_tested a_t_isTold a_t_rows a_t_ahead a_t_told a_t_pile a_t_common a_t_mostOf a_t_likes a_t_heard a_t_soon a_t_soonAll a_t_imageRow a_t_imageAhead a_t_imageHears 0 v_t_songs v_t_people v_t_forgetsAt v_t_fillsAt o5_0 v_t_faultKind v_t_faultPlace v_t_long1 v_t_next0 v_t_sort v_t_place v_t_long0 v_t_value v_t_sign v_t_word v_t_newSongs v_t_newPeople v_t_newForgetsAt v_t_newFillsAt v_t_top v_t_firstValue v_t_lastValue v_t_waiting v_t_depth v_t_acts v_t_isWinter v_t_learntNow v_t_forgottenNow v_t_heardMany v_t_its0 v_t_hasImage v_t_imageActs v_t_imageHeard o5_1)) (va_runV (As := [.int x4]) (rest := []) ⟨hx, hb, hml, hown, hts⟩ (c_X12_lays l E a_t a_t_tape a_t_songLong a_t_firstNote a_t_wit a_t_code a_t_refused a_t_newSongLong a_t_newFirstNote a_t_newWit a_t_newRow a_t_readCode a_t_waits a_t_tested a_t_isTold a_t_rows a_t_ahead a_t_told a_t_pile a_t_common a_t_mostOf a_t_likes a_t_heard a_t_soon a_t_soonAll a_t_imageRow a_t_imageAhead a_t_imageHears 0 v_t_songs v_t_people v_t_forgetsAt v_t_fillsAt o4_0 v_t_faultKind v_t_faultPlace v_t_long1 v_t_next0 v_t_sort v_t_place v_t_long0 v_t_value v_t_sign v_t_word v_t_newSongs v_t_newPeople v_t_newForgetsAt v_t_newFillsAt v_t_top v_t_firstValue v_t_lastValue v_t_waiting v_t_depth v_t_acts v_t_isWinter v_t_learntNow v_t_forgottenNow v_t_heardMany v_t_its0 v_t_hasImage v_t_imageActs v_t_imageHeard o4_1 x4 o5_0 o5_1 hz5) (cwV 1 hts gX12_feed_X12_lays rfl rfl rfl (by decide +kernel) ⟨Nat.le_of_ble_eq_true rfl, Nat.le_of_ble_eq_true rfl⟩) (gs_preV (ci := 12) hk hP hD (is := [0, 1]) rfl rfl rfl rfl) rfl rfl hl.1 rfl (lv_room (Nat.le_of_ble_eq_true rfl)) dX12_feed_38 ⟨Nat.zero_le _, Nat.zero_le _⟩) hP hD hS [0, 1] rfl rfl rfl rfl (fun H locs hP hD hS => ?_)
    refine lv_aload_n hx hb dX12_feed_41 rfl (lv_at hl 0 rfl) ?_
    refine lv_iload hx hb dX12_feed_42 (lv_at hl 5 rfl) ?_
    obtain ⟨o6_0, o6_1, hz6, h⟩ := gs_b2_e h
    refine gs_backWv (ws1 := (w_X12_feed E a_t a_t_tape a_t_songLong a_t_firstNote a_t_wit a_t_code a_t_refused a_t_newSongLong a_t_newFirstNote a_t_newWit a_t_newRow a_t_readCode a_t_waits a_t_tested a_t_isTold a_t_rows a_t_ahead a_t_told a_t_pile a_t_common a_t_mostOf a_t_likes a_t_heard a_t_soon a_t_soonAll a_t_imageRow a_t_imageAhead a_t_imageHears 0 v_t_songs v_t_people v_t_forgetsAt v_t_fillsAt o6_0 v_t_faultKind v_t_faultPlace v_t_long1 v_t_next0 v_t_sort v_t_place v_t_long0 v_t_value v_t_sign v_t_word v_t_newSongs v_t_newPeople v_t_newForgetsAt v_t_newFillsAt v_t_top v_t_firstValue v_t_lastValue v_t_waiting v_t_depth v_t_acts v_t_isWinter v_t_learntNow v_t_forgottenNow v_t_heardMany v_t_its0 v_t_hasImage v_t_imageActs v_t_imageHeard o6_1)) (va_runV (As := [.int x5]) (rest := []) ⟨hx, hb, hml, hown, hts⟩ (c_X12_lays l E a_t a_t_tape a_t_songLong a_t_firstNote a_t_wit a_t_code a_t_refused a_t_newSongLong a_t_newFirstNote a_t_newWit a_t_newRow a_t_readCode a_t_waits a_t_tested a_t_isTold a_t_rows a_t_ahead a_t_told a_t_pile a_t_common a_t_mostOf a_t_likes a_t_heard a_t_soon a_t_soonAll a_t_imageRow a_t_imageAhead a_t_imageHears 0 v_t_songs v_t_people v_t_forgetsAt v_t_fillsAt o5_0 v_t_faultKind v_t_faultPlace v_t_long1 v_t_next0 v_t_sort v_t_place v_t_long0 v_t_value v_t_sign v_t_word v_t_newSongs v_t_newPeople v_t_newForgetsAt v_t_newFillsAt v_t_top v_t_firstValue v_t_lastValue v_t_waiting v_t_depth v_t_acts v_t_isWinter v_t_learntNow v_t_forgottenNow v_t_heardMany v_t_its0 v_t_hasImage v_t_imageActs v_t_imageHeard o5_1 x5 o6_0 o6_1 hz6) (cwV 1 hts gX12_feed_X12_lays rfl rfl rfl (by decide +kernel) ⟨Nat.le_of_ble_eq_true rfl, Nat.le_of_ble_eq_true rfl⟩) (gs_preV (ci := 12) hk hP hD (is := [0, 1]) rfl rfl rfl rfl) rfl rfl hl.1 rfl (lv_room (Nat.le_of_ble_eq_true rfl)) dX12_feed_44 ⟨Nat.zero_le _, Nat.zero_le _⟩) hP hD hS [0, 1] rfl rfl rfl rfl (fun H locs hP hD hS => ?_)
    refine lv_aload_n hx hb dX12_feed_47 rfl (lv_at hl 0 rfl) ?_
    refine va_get (D := E.1) (ci := 12) (v := .int o6_0) (C := RX12) (T := TX12) (N := 61) hx hb hts (fun _ h => (List.mem_cons_of_mem _ (List.mem_append_right _ h))) hown hk.1 hP 0 rfl rfl 10 (by decide) (hts (.fieldLink RX12 105 "GapSongsModel" "taped" "I") (List.mem_cons_of_mem _ (List.mem_append_left _ (List.mem_of_getElem? (i := 1) rfl)))) (fun _ h9 => h9) rfl dX12_feed_48 ?_
    have h := Option.some.inj h
    obtain ⟨w0, h⟩ := Prod.mk.inj h
    obtain ⟨w1, h⟩ := Prod.mk.inj h
    obtain ⟨w2, h⟩ := Prod.mk.inj h
    subst h
    subst w0
    subst w1
    subst w2
    exact hret _ _ _ _ hP hS dX12_feed_51
  · replace h := gs_iff c1 h
    refine lv_iconst (v := (-1)) hx hb dX12_feed_18 (by decide) ?_
    have h := Option.some.inj h
    obtain ⟨w0, h⟩ := Prod.mk.inj h
    obtain ⟨w1, h⟩ := Prod.mk.inj h
    obtain ⟨w2, h⟩ := Prod.mk.inj h
    subst h
    subst w0
    subst w1
    subst w2
    exact hret _ _ _ _ hP hS dX12_feed_19

theorem dX12_byteAt_0 : decode cX12_byteAt 0 = .ok (.iload_n 1, 1) := by decide +kernel
theorem dX12_byteAt_1 : decode cX12_byteAt 1 = .ok (.aload_n 0, 1) := by decide +kernel
theorem dX12_byteAt_2 : decode cX12_byteAt 2 = .ok (.getfield 112, 3) := by decide +kernel
theorem dX12_byteAt_5 : decode cX12_byteAt 5 = .ok (.if_icmp .ge 12, 3) := by decide +kernel
theorem dX12_byteAt_8 : decode cX12_byteAt 8 = .ok (.aload_n 0, 1) := by decide +kernel
theorem dX12_byteAt_9 : decode cX12_byteAt 9 = .ok (.getfield 29, 3) := by decide +kernel
theorem dX12_byteAt_12 : decode cX12_byteAt 12 = .ok (.iload_n 1, 1) := by decide +kernel
theorem dX12_byteAt_13 : decode cX12_byteAt 13 = .ok (.iaload, 1) := by decide +kernel
theorem dX12_byteAt_14 : decode cX12_byteAt 14 = .ok (.goto 4, 3) := by decide +kernel
theorem dX12_byteAt_17 : decode cX12_byteAt 17 = .ok (.iconst 0, 1) := by decide +kernel
theorem dX12_byteAt_18 : decode cX12_byteAt 18 = .ok (.ireturn, 1) := by decide +kernel
abbrev w_X12_byteAt (E : gs_E) (a_t a_t_tape a_t_songLong a_t_firstNote a_t_wit a_t_code a_t_refused a_t_newSongLong a_t_newFirstNote a_t_newWit a_t_newRow a_t_readCode a_t_waits a_t_tested a_t_isTold a_t_rows a_t_ahead a_t_told a_t_pile a_t_common a_t_mostOf a_t_likes a_t_heard a_t_soon a_t_soonAll a_t_imageRow a_t_imageAhead a_t_imageHears : Nat) (v_t_thrown : Int32) (v_t_songs : Int32) (v_t_people : Int32) (v_t_forgetsAt : Int32) (v_t_fillsAt : Int32) (v_t_taped : Int32) (v_t_faultKind : Int32) (v_t_faultPlace : Int32) (v_t_long1 : Int32) (v_t_next0 : Int32) (v_t_sort : Int32) (v_t_place : Int32) (v_t_long0 : Int32) (v_t_value : Int32) (v_t_sign : Int32) (v_t_word : Int64) (v_t_newSongs : Int32) (v_t_newPeople : Int32) (v_t_newForgetsAt : Int32) (v_t_newFillsAt : Int32) (v_t_top : Int32) (v_t_firstValue : Int32) (v_t_lastValue : Int32) (v_t_waiting : Int32) (v_t_depth : Int32) (v_t_acts : Int32) (v_t_isWinter : Int32) (v_t_learntNow : Int32) (v_t_forgottenNow : Int32) (v_t_heardMany : Int32) (v_t_its0 : Int32) (v_t_hasImage : Int32) (v_t_imageActs : Int32) (v_t_imageHeard : Int32) (r_t_tape : Nat → Int32) : va_W := [(a_t, .inr (12, [.int v_t_thrown, .int v_t_songs, .int v_t_people, .int v_t_forgetsAt, .int v_t_fillsAt, .ref a_t_songLong, .ref a_t_firstNote, .ref a_t_wit, .ref a_t_code, .ref a_t_tape, .int v_t_taped, .int v_t_faultKind, .int v_t_faultPlace, .ref a_t_refused, .int v_t_long1, .int v_t_next0, .int v_t_sort, .int v_t_place, .int v_t_long0, .int v_t_value, .int v_t_sign, .long v_t_word, .int v_t_newSongs, .int v_t_newPeople, .int v_t_newForgetsAt, .int v_t_newFillsAt, .int v_t_top, .int v_t_firstValue, .int v_t_lastValue, .int v_t_waiting, .int v_t_depth, .ref a_t_newSongLong, .ref a_t_newFirstNote, .ref a_t_newWit, .ref a_t_newRow, .ref a_t_readCode, .ref a_t_waits, .ref a_t_tested, .ref a_t_isTold, .ref a_t_rows, .ref a_t_ahead, .int v_t_acts, .ref a_t_told, .ref a_t_pile, .int v_t_isWinter, .int v_t_learntNow, .int v_t_forgottenNow, .ref a_t_common, .ref a_t_mostOf, .ref a_t_likes, .int v_t_heardMany, .ref a_t_heard, .ref a_t_soon, .ref a_t_soonAll, .int v_t_its0, .int v_t_hasImage, .int v_t_imageActs, .int v_t_imageHeard, .ref a_t_imageRow, .ref a_t_imageAhead, .ref a_t_imageHears])), (a_t_tape, .inl (E.2.1, 700, .inl r_t_tape))]
abbrev rm_X12_byteAt : Room := { frames := 0, cells := 0, slots := 0, locals := 0 }
def f_X12_byteAt (x1 : Int32) (v_t_long1 : Int32) (r_t_tape : Nat → Int32) : Option (Int32) :=
  if v_t_long1 ≤ x1 then
    some 0
  else
    gs_gd (gs_in x1 700) <|
    some (r_t_tape x1.toNatClampNeg)
set_option maxHeartbeats 4000000 in
set_option maxRecDepth 100000 in
theorem c_X12_byteAt (l : Launch) (E : gs_E) (a_t a_t_tape a_t_songLong a_t_firstNote a_t_wit a_t_code a_t_refused a_t_newSongLong a_t_newFirstNote a_t_newWit a_t_newRow a_t_readCode a_t_waits a_t_tested a_t_isTold a_t_rows a_t_ahead a_t_told a_t_pile a_t_common a_t_mostOf a_t_likes a_t_heard a_t_soon a_t_soonAll a_t_imageRow a_t_imageAhead a_t_imageHears : Nat) (v_t_thrown : Int32) (v_t_songs : Int32) (v_t_people : Int32) (v_t_forgetsAt : Int32) (v_t_fillsAt : Int32) (v_t_taped : Int32) (v_t_faultKind : Int32) (v_t_faultPlace : Int32) (v_t_long1 : Int32) (v_t_next0 : Int32) (v_t_sort : Int32) (v_t_place : Int32) (v_t_long0 : Int32) (v_t_value : Int32) (v_t_sign : Int32) (v_t_word : Int64) (v_t_newSongs : Int32) (v_t_newPeople : Int32) (v_t_newForgetsAt : Int32) (v_t_newFillsAt : Int32) (v_t_top : Int32) (v_t_firstValue : Int32) (v_t_lastValue : Int32) (v_t_waiting : Int32) (v_t_depth : Int32) (v_t_acts : Int32) (v_t_isWinter : Int32) (v_t_learntNow : Int32) (v_t_forgottenNow : Int32) (v_t_heardMany : Int32) (v_t_its0 : Int32) (v_t_hasImage : Int32) (v_t_imageActs : Int32) (v_t_imageHeard : Int32) (r_t_tape : Nat → Int32) (x1 : Int32) (rr : Int32) (h : f_X12_byteAt x1 v_t_long1 r_t_tape = some rr) : gs_MR l yX12_byteAt wsX12_byteAt rm_X12_byteAt [.ref a_t, .int x1] E (w_X12_byteAt E a_t a_t_tape a_t_songLong a_t_firstNote a_t_wit a_t_code a_t_refused a_t_newSongLong a_t_newFirstNote a_t_newWit a_t_newRow a_t_readCode a_t_waits a_t_tested a_t_isTold a_t_rows a_t_ahead a_t_told a_t_pile a_t_common a_t_mostOf a_t_likes a_t_heard a_t_soon a_t_soonAll a_t_imageRow a_t_imageAhead a_t_imageHears v_t_thrown v_t_songs v_t_people v_t_forgetsAt v_t_fillsAt v_t_taped v_t_faultKind v_t_faultPlace v_t_long1 v_t_next0 v_t_sort v_t_place v_t_long0 v_t_value v_t_sign v_t_word v_t_newSongs v_t_newPeople v_t_newForgetsAt v_t_newFillsAt v_t_top v_t_firstValue v_t_lastValue v_t_waiting v_t_depth v_t_acts v_t_isWinter v_t_learntNow v_t_forgottenNow v_t_heardMany v_t_its0 v_t_hasImage v_t_imageActs v_t_imageHeard r_t_tape) (some (.int rr)) := by
  refine Met.ofW (cc := cX12_byteAt) (maxL := 2) (ret := (some .int)) (by decide) rfl ?_
  intro p e s m args below meth c s₁ B hml hv
  obtain ⟨rfl, hP, hk, hD0⟩ := hv
  have X0 : gs_X wsX12_byteAt cX12_byteAt RX12 2 (some .int) p s m ([.ref a_t, .int x1] : List Value).toArray meth c := gs_X.of B hml
  obtain ⟨hx, hb, -, hown, hts, hr, hlk⟩ := id X0
  have hD := hD0
  have hret : ∀ (pc : Nat) (ls : Array Slot), decode cX12_byteAt pc = .ok (.ireturn, 1) → W p l e rm_X12_byteAt s m ([.ref a_t, .int x1] : List Value).toArray below meth c s.heap [] 0 0 (MQ below (gs_QR (some (.int rr))) ([.ref a_t, .int x1] : List Value).toArray s 0 0 (fun _ => False)) (F0 m pc ls [.int rr]) := fun pc ls hd => W.iret hx hb hr (fun t ht hW => ⟨rfl, ht⟩) (fun q hq => by cases hq) hd
  have hl := lv_entry ([.ref a_t, .int x1]) (n := 2) (Nat.le_of_ble_eq_true rfl)
  rw [lg_entry_eq]
  generalize (lg_sl ([.ref a_t, .int x1]) ++ List.replicate (2 - (lg_sl ([.ref a_t, .int x1])).length) Slot.unset).toArray = ls at hl ⊢
  have hl : lv_has ls 2 [(0, .ref a_t), (1, .int x1)] := hl
  unfold f_X12_byteAt at h
  refine lv_iload_n hx hb dX12_byteAt_0 rfl (lv_at hl 1 rfl) ?_
  refine lv_aload_n hx hb dX12_byteAt_1 rfl (lv_at hl 0 rfl) ?_
  refine va_get (D := E.1) (ci := 12) (v := .int v_t_long1) (C := RX12) (T := TX12) (N := 61) hx hb hts (fun _ h => (List.mem_cons_of_mem _ (List.mem_append_right _ h))) hown hk.1 hP 0 rfl rfl 14 (by decide) (hts (.fieldLink RX12 112 "GapSongsModel" "long1" "I") (List.mem_cons_of_mem _ (List.mem_append_left _ (List.mem_of_getElem? (i := 0) rfl)))) (fun _ h9 => h9) rfl dX12_byteAt_2 ?_
  refine lv_icmp_ge (tgt := 17) hx hb dX12_byteAt_5 (by decide) (fun c1 => ?_) (fun c1 => ?_)
  · replace h := gs_ift c1 h
    refine lv_iconst (v := 0) hx hb dX12_byteAt_17 (by decide) ?_
    have h := Option.some.inj h
    subst h
    exact hret _ _ dX12_byteAt_18
  · replace h := gs_iff c1 h
    refine lv_aload_n hx hb dX12_byteAt_8 rfl (lv_at hl 0 rfl) ?_
    refine va_get (D := E.1) (ci := 12) (v := .ref a_t_tape) (C := RX12) (T := TX12) (N := 61) hx hb hts (fun _ h => (List.mem_cons_of_mem _ (List.mem_append_right _ h))) hown hk.1 hP 0 rfl rfl 9 (by decide) (hts (.fieldLink RX12 29 "GapSongsModel" "tape" "[I") (List.mem_cons_of_mem _ (List.mem_append_left _ (List.mem_of_getElem? (i := 1) rfl)))) (fun _ h9 => h9) rfl dX12_byteAt_9 ?_
    refine lv_iload_n hx hb dX12_byteAt_12 rfl (lv_at hl 1 rfl) ?_
    obtain ⟨g2, h⟩ := gs_gd_e h
    refine va_iald hx hb hk.1 hP 1 0 rfl rfl (gs_in_e g2) dX12_byteAt_13 ?_
    refine lv_goto (tgt := 18) hx hb dX12_byteAt_14 (by decide) ?_
    have h := Option.some.inj h
    subst h
    exact hret _ _ dX12_byteAt_18

theorem dX12_isLetter_0 : decode cX12_isLetter 0 = .ok (.iload_n 0, 1) := by decide +kernel
theorem dX12_isLetter_1 : decode cX12_isLetter 1 = .ok (.bipush 97, 2) := by decide +kernel
theorem dX12_isLetter_3 : decode cX12_isLetter 3 = .ok (.if_icmp .lt 13, 3) := by decide +kernel
theorem dX12_isLetter_6 : decode cX12_isLetter 6 = .ok (.iload_n 0, 1) := by decide +kernel
theorem dX12_isLetter_7 : decode cX12_isLetter 7 = .ok (.bipush 122, 2) := by decide +kernel
theorem dX12_isLetter_9 : decode cX12_isLetter 9 = .ok (.if_icmp .gt 7, 3) := by decide +kernel
theorem dX12_isLetter_12 : decode cX12_isLetter 12 = .ok (.iconst 1, 1) := by decide +kernel
theorem dX12_isLetter_13 : decode cX12_isLetter 13 = .ok (.goto 4, 3) := by decide +kernel
theorem dX12_isLetter_16 : decode cX12_isLetter 16 = .ok (.iconst 0, 1) := by decide +kernel
theorem dX12_isLetter_17 : decode cX12_isLetter 17 = .ok (.ireturn, 1) := by decide +kernel
abbrev w_X12_isLetter (E : gs_E) : va_W := []
abbrev rm_X12_isLetter : Room := { frames := 0, cells := 0, slots := 0, locals := 0 }
def f_X12_isLetter (x0 : Int32) : Option (Int32) :=
  if x0 < 97 then
    some 0
  else
    if 122 < x0 then
      some 0
    else
      some 1
set_option maxHeartbeats 4000000 in
set_option maxRecDepth 100000 in
theorem c_X12_isLetter (l : Launch) (E : gs_E) (x0 : Int32) (rr : Int32) (h : f_X12_isLetter x0 = some rr) : gs_MR l yX12_isLetter wsX12_isLetter rm_X12_isLetter [.int x0] E (w_X12_isLetter E ) (some (.int rr)) := by
  refine Met.ofW (cc := cX12_isLetter) (maxL := 1) (ret := (some .boolean)) (by decide) rfl ?_
  intro p e s m args below meth c s₁ B hml hv
  obtain ⟨rfl, hP, hk, hD0⟩ := hv
  have X0 : gs_X wsX12_isLetter cX12_isLetter RX12 1 (some .boolean) p s m ([.int x0] : List Value).toArray meth c := gs_X.of B hml
  obtain ⟨hx, hb, -, hown, hts, hr, hlk⟩ := id X0
  have hD := hD0
  have hret : ∀ (pc : Nat) (ls : Array Slot), narrow .boolean (.int rr) = .int rr → decode cX12_isLetter pc = .ok (.ireturn, 1) → W p l e rm_X12_isLetter s m ([.int x0] : List Value).toArray below meth c s.heap [] 0 0 (MQ below (gs_QR (some (.int rr))) ([.int x0] : List Value).toArray s 0 0 (fun _ => False)) (F0 m pc ls [.int rr]) := fun pc ls hnar hd => W.zret hx hb hr hnar (fun t ht hW => ⟨rfl, ht⟩) (fun q hq => by cases hq) hd
  have hl := lv_entry ([.int x0]) (n := 1) (Nat.le_of_ble_eq_true rfl)
  rw [lg_entry_eq]
  generalize (lg_sl ([.int x0]) ++ List.replicate (1 - (lg_sl ([.int x0])).length) Slot.unset).toArray = ls at hl ⊢
  have hl : lv_has ls 1 [(0, .int x0)] := hl
  unfold f_X12_isLetter at h
  refine lv_iload_n hx hb dX12_isLetter_0 rfl (lv_at hl 0 rfl) ?_
  refine lv_bipush (v := 97) hx hb dX12_isLetter_1 (by decide) ?_
  refine lv_icmp_lt (tgt := 16) hx hb dX12_isLetter_3 (by decide) (fun c1 => ?_) (fun c1 => ?_)
  · replace h := gs_ift c1 h
    refine lv_iconst (v := 0) hx hb dX12_isLetter_16 (by decide) ?_
    have h := Option.some.inj h
    subst h
    exact hret _ _ rfl dX12_isLetter_17
  · replace h := gs_iff c1 h
    refine lv_iload_n hx hb dX12_isLetter_6 rfl (lv_at hl 0 rfl) ?_
    refine lv_bipush (v := 122) hx hb dX12_isLetter_7 (by decide) ?_
    refine lv_icmp_gt (tgt := 16) hx hb dX12_isLetter_9 (by decide) (fun c2 => ?_) (fun c2 => ?_)
    · replace h := gs_ift c2 h
      refine lv_iconst (v := 0) hx hb dX12_isLetter_16 (by decide) ?_
      have h := Option.some.inj h
      subst h
      exact hret _ _ rfl dX12_isLetter_17
    · replace h := gs_iff c2 h
      refine lv_iconst (v := 1) hx hb dX12_isLetter_12 (by decide) ?_
      refine lv_goto (tgt := 17) hx hb dX12_isLetter_13 (by decide) ?_
      have h := Option.some.inj h
      subst h
      exact hret _ _ rfl dX12_isLetter_17

theorem dX12_isDigit_0 : decode cX12_isDigit 0 = .ok (.iload_n 0, 1) := by decide +kernel
theorem dX12_isDigit_1 : decode cX12_isDigit 1 = .ok (.bipush 48, 2) := by decide +kernel
theorem dX12_isDigit_3 : decode cX12_isDigit 3 = .ok (.if_icmp .lt 13, 3) := by decide +kernel
theorem dX12_isDigit_6 : decode cX12_isDigit 6 = .ok (.iload_n 0, 1) := by decide +kernel
theorem dX12_isDigit_7 : decode cX12_isDigit 7 = .ok (.bipush 57, 2) := by decide +kernel
theorem dX12_isDigit_9 : decode cX12_isDigit 9 = .ok (.if_icmp .gt 7, 3) := by decide +kernel
theorem dX12_isDigit_12 : decode cX12_isDigit 12 = .ok (.iconst 1, 1) := by decide +kernel
theorem dX12_isDigit_13 : decode cX12_isDigit 13 = .ok (.goto 4, 3) := by decide +kernel
theorem dX12_isDigit_16 : decode cX12_isDigit 16 = .ok (.iconst 0, 1) := by decide +kernel
theorem dX12_isDigit_17 : decode cX12_isDigit 17 = .ok (.ireturn, 1) := by decide +kernel
abbrev w_X12_isDigit (E : gs_E) : va_W := []
abbrev rm_X12_isDigit : Room := { frames := 0, cells := 0, slots := 0, locals := 0 }
def f_X12_isDigit (x0 : Int32) : Option (Int32) :=
  if x0 < 48 then
    some 0
  else
    if 57 < x0 then
      some 0
    else
      some 1
set_option maxHeartbeats 4000000 in
set_option maxRecDepth 100000 in
theorem c_X12_isDigit (l : Launch) (E : gs_E) (x0 : Int32) (rr : Int32) (h : f_X12_isDigit x0 = some rr) : gs_MR l yX12_isDigit wsX12_isDigit rm_X12_isDigit [.int x0] E (w_X12_isDigit E ) (some (.int rr)) := by
  refine Met.ofW (cc := cX12_isDigit) (maxL := 1) (ret := (some .boolean)) (by decide) rfl ?_
  intro p e s m args below meth c s₁ B hml hv
  obtain ⟨rfl, hP, hk, hD0⟩ := hv
  have X0 : gs_X wsX12_isDigit cX12_isDigit RX12 1 (some .boolean) p s m ([.int x0] : List Value).toArray meth c := gs_X.of B hml
  obtain ⟨hx, hb, -, hown, hts, hr, hlk⟩ := id X0
  have hD := hD0
  have hret : ∀ (pc : Nat) (ls : Array Slot), narrow .boolean (.int rr) = .int rr → decode cX12_isDigit pc = .ok (.ireturn, 1) → W p l e rm_X12_isDigit s m ([.int x0] : List Value).toArray below meth c s.heap [] 0 0 (MQ below (gs_QR (some (.int rr))) ([.int x0] : List Value).toArray s 0 0 (fun _ => False)) (F0 m pc ls [.int rr]) := fun pc ls hnar hd => W.zret hx hb hr hnar (fun t ht hW => ⟨rfl, ht⟩) (fun q hq => by cases hq) hd
  have hl := lv_entry ([.int x0]) (n := 1) (Nat.le_of_ble_eq_true rfl)
  rw [lg_entry_eq]
  generalize (lg_sl ([.int x0]) ++ List.replicate (1 - (lg_sl ([.int x0])).length) Slot.unset).toArray = ls at hl ⊢
  have hl : lv_has ls 1 [(0, .int x0)] := hl
  unfold f_X12_isDigit at h
  refine lv_iload_n hx hb dX12_isDigit_0 rfl (lv_at hl 0 rfl) ?_
  refine lv_bipush (v := 48) hx hb dX12_isDigit_1 (by decide) ?_
  refine lv_icmp_lt (tgt := 16) hx hb dX12_isDigit_3 (by decide) (fun c1 => ?_) (fun c1 => ?_)
  · replace h := gs_ift c1 h
    refine lv_iconst (v := 0) hx hb dX12_isDigit_16 (by decide) ?_
    have h := Option.some.inj h
    subst h
    exact hret _ _ rfl dX12_isDigit_17
  · replace h := gs_iff c1 h
    refine lv_iload_n hx hb dX12_isDigit_6 rfl (lv_at hl 0 rfl) ?_
    refine lv_bipush (v := 57) hx hb dX12_isDigit_7 (by decide) ?_
    refine lv_icmp_gt (tgt := 16) hx hb dX12_isDigit_9 (by decide) (fun c2 => ?_) (fun c2 => ?_)
    · replace h := gs_ift c2 h
      refine lv_iconst (v := 0) hx hb dX12_isDigit_16 (by decide) ?_
      have h := Option.some.inj h
      subst h
      exact hret _ _ rfl dX12_isDigit_17
    · replace h := gs_iff c2 h
      refine lv_iconst (v := 1) hx hb dX12_isDigit_12 (by decide) ?_
      refine lv_goto (tgt := 17) hx hb dX12_isDigit_13 (by decide) ?_
      have h := Option.some.inj h
      subst h
      exact hret _ _ rfl dX12_isDigit_17

set_option maxRecDepth 100000 in
theorem ggX12_goes_X12_byteAt : GoodIn wsX12_goes wsX12_byteAt := goodIn_r _ [13, 2, 14, 21, 22, 23, 24, 25, 26, 27, 28, 29, 30, 31, 32, 33, 34, 35, 36, 37, 38, 39, 40, 41, 42, 43, 44, 45, 46, 47, 48, 49, 50, 51, 52, 53, 54, 55, 56, 57, 58, 59, 60, 61, 62, 63, 64, 65, 66, 67, 68, 69, 70, 71, 72, 73, 74, 75, 76, 77, 78, 79, 80, 81] rfl (by decide +kernel)
set_option maxRecDepth 100000 in
theorem gX12_goes_X12_byteAt : GoodIn wsX12_goes (wsV RX12 118 RX12 yX12_byteAt wsX12_byteAt) := goodIn_app (goodIn_of _ (by decide +kernel)) ggX12_goes_X12_byteAt
set_option maxRecDepth 100000 in
theorem ggX12_goes_X12_isLetter : GoodIn wsX12_goes wsX12_isLetter := goodIn_r _ [17] rfl (by decide +kernel)
set_option maxRecDepth 100000 in
theorem gX12_goes_X12_isLetter : GoodIn wsX12_goes (va_wsS RX12 138 yX12_isLetter wsX12_isLetter) := goodIn_app (goodIn_of _ (by decide +kernel)) ggX12_goes_X12_isLetter
set_option maxRecDepth 100000 in
theorem ggX12_goes_X12_isDigit : GoodIn wsX12_goes wsX12_isDigit := goodIn_r _ [20] rfl (by decide +kernel)
set_option maxRecDepth 100000 in
theorem gX12_goes_X12_isDigit : GoodIn wsX12_goes (va_wsS RX12 142 yX12_isDigit wsX12_isDigit) := goodIn_app (goodIn_of _ (by decide +kernel)) ggX12_goes_X12_isDigit
theorem dX12_goes_0 : decode cX12_goes 0 = .ok (.aload_n 0, 1) := by decide +kernel
theorem dX12_goes_1 : decode cX12_goes 1 = .ok (.getfield 115, 3) := by decide +kernel
theorem dX12_goes_4 : decode cX12_goes 4 = .ok (.aload_n 0, 1) := by decide +kernel
theorem dX12_goes_5 : decode cX12_goes 5 = .ok (.getfield 112, 3) := by decide +kernel
theorem dX12_goes_8 : decode cX12_goes 8 = .ok (.if_icmp .ge 42, 3) := by decide +kernel
theorem dX12_goes_11 : decode cX12_goes 11 = .ok (.aload_n 0, 1) := by decide +kernel
theorem dX12_goes_12 : decode cX12_goes 12 = .ok (.aload_n 0, 1) := by decide +kernel
theorem dX12_goes_13 : decode cX12_goes 13 = .ok (.getfield 115, 3) := by decide +kernel
theorem dX12_goes_16 : decode cX12_goes 16 = .ok (.invokevirtual 118, 3) := by decide +kernel
theorem dX12_goes_19 : decode cX12_goes 19 = .ok (.bipush 32, 2) := by decide +kernel
theorem dX12_goes_21 : decode cX12_goes 21 = .ok (.if_icmp .eq 16, 3) := by decide +kernel
theorem dX12_goes_24 : decode cX12_goes 24 = .ok (.aload_n 0, 1) := by decide +kernel
theorem dX12_goes_25 : decode cX12_goes 25 = .ok (.aload_n 0, 1) := by decide +kernel
theorem dX12_goes_26 : decode cX12_goes 26 = .ok (.getfield 115, 3) := by decide +kernel
theorem dX12_goes_29 : decode cX12_goes 29 = .ok (.invokevirtual 118, 3) := by decide +kernel
theorem dX12_goes_32 : decode cX12_goes 32 = .ok (.bipush 10, 2) := by decide +kernel
theorem dX12_goes_34 : decode cX12_goes 34 = .ok (.if_icmp .ne 16, 3) := by decide +kernel
theorem dX12_goes_37 : decode cX12_goes 37 = .ok (.aload_n 0, 1) := by decide +kernel
theorem dX12_goes_38 : decode cX12_goes 38 = .ok (.dup, 1) := by decide +kernel
theorem dX12_goes_39 : decode cX12_goes 39 = .ok (.getfield 115, 3) := by decide +kernel
theorem dX12_goes_42 : decode cX12_goes 42 = .ok (.iconst 1, 1) := by decide +kernel
theorem dX12_goes_43 : decode cX12_goes 43 = .ok (.iadd, 1) := by decide +kernel
theorem dX12_goes_44 : decode cX12_goes 44 = .ok (.putfield 115, 3) := by decide +kernel
theorem dX12_goes_47 : decode cX12_goes 47 = .ok (.goto (-47), 3) := by decide +kernel
theorem dX12_goes_50 : decode cX12_goes 50 = .ok (.aload_n 0, 1) := by decide +kernel
theorem dX12_goes_51 : decode cX12_goes 51 = .ok (.aload_n 0, 1) := by decide +kernel
theorem dX12_goes_52 : decode cX12_goes 52 = .ok (.getfield 115, 3) := by decide +kernel
theorem dX12_goes_55 : decode cX12_goes 55 = .ok (.putfield 122, 3) := by decide +kernel
theorem dX12_goes_58 : decode cX12_goes 58 = .ok (.aload_n 0, 1) := by decide +kernel
theorem dX12_goes_59 : decode cX12_goes 59 = .ok (.lconst 0, 1) := by decide +kernel
theorem dX12_goes_60 : decode cX12_goes 60 = .ok (.putfield 125, 3) := by decide +kernel
theorem dX12_goes_63 : decode cX12_goes 63 = .ok (.aload_n 0, 1) := by decide +kernel
theorem dX12_goes_64 : decode cX12_goes 64 = .ok (.iconst 0, 1) := by decide +kernel
theorem dX12_goes_65 : decode cX12_goes 65 = .ok (.putfield 129, 3) := by decide +kernel
theorem dX12_goes_68 : decode cX12_goes 68 = .ok (.aload_n 0, 1) := by decide +kernel
theorem dX12_goes_69 : decode cX12_goes 69 = .ok (.aload_n 0, 1) := by decide +kernel
theorem dX12_goes_70 : decode cX12_goes 70 = .ok (.getfield 115, 3) := by decide +kernel
theorem dX12_goes_73 : decode cX12_goes 73 = .ok (.invokevirtual 118, 3) := by decide +kernel
theorem dX12_goes_76 : decode cX12_goes 76 = .ok (.istore_n 1, 1) := by decide +kernel
theorem dX12_goes_77 : decode cX12_goes 77 = .ok (.aload_n 0, 1) := by decide +kernel
theorem dX12_goes_78 : decode cX12_goes 78 = .ok (.iload_n 1, 1) := by decide +kernel
theorem dX12_goes_79 : decode cX12_goes 79 = .ok (.putfield 132, 3) := by decide +kernel
theorem dX12_goes_82 : decode cX12_goes 82 = .ok (.aload_n 0, 1) := by decide +kernel
theorem dX12_goes_83 : decode cX12_goes 83 = .ok (.getfield 115, 3) := by decide +kernel
theorem dX12_goes_86 : decode cX12_goes 86 = .ok (.aload_n 0, 1) := by decide +kernel
theorem dX12_goes_87 : decode cX12_goes 87 = .ok (.getfield 112, 3) := by decide +kernel
theorem dX12_goes_90 : decode cX12_goes 90 = .ok (.if_icmp .lt 11, 3) := by decide +kernel
theorem dX12_goes_93 : decode cX12_goes 93 = .ok (.aload_n 0, 1) := by decide +kernel
theorem dX12_goes_94 : decode cX12_goes 94 = .ok (.iconst 0, 1) := by decide +kernel
theorem dX12_goes_95 : decode cX12_goes 95 = .ok (.putfield 135, 3) := by decide +kernel
theorem dX12_goes_98 : decode cX12_goes 98 = .ok (.goto 233, 3) := by decide +kernel
theorem dX12_goes_101 : decode cX12_goes 101 = .ok (.iload_n 1, 1) := by decide +kernel
theorem dX12_goes_102 : decode cX12_goes 102 = .ok (.invokestatic 138, 3) := by decide +kernel
theorem dX12_goes_105 : decode cX12_goes 105 = .ok (.ifCond .eq 75, 3) := by decide +kernel
theorem dX12_goes_108 : decode cX12_goes 108 = .ok (.aload_n 0, 1) := by decide +kernel
theorem dX12_goes_109 : decode cX12_goes 109 = .ok (.aload_n 0, 1) := by decide +kernel
theorem dX12_goes_110 : decode cX12_goes 110 = .ok (.getfield 115, 3) := by decide +kernel
theorem dX12_goes_113 : decode cX12_goes 113 = .ok (.invokevirtual 118, 3) := by decide +kernel
theorem dX12_goes_116 : decode cX12_goes 116 = .ok (.invokestatic 138, 3) := by decide +kernel
theorem dX12_goes_119 : decode cX12_goes 119 = .ok (.ifCond .eq 53, 3) := by decide +kernel
theorem dX12_goes_122 : decode cX12_goes 122 = .ok (.aload_n 0, 1) := by decide +kernel
theorem dX12_goes_123 : decode cX12_goes 123 = .ok (.getfield 115, 3) := by decide +kernel
theorem dX12_goes_126 : decode cX12_goes 126 = .ok (.aload_n 0, 1) := by decide +kernel
theorem dX12_goes_127 : decode cX12_goes 127 = .ok (.getfield 122, 3) := by decide +kernel
theorem dX12_goes_130 : decode cX12_goes 130 = .ok (.isub, 1) := by decide +kernel
theorem dX12_goes_131 : decode cX12_goes 131 = .ok (.bipush 7, 2) := by decide +kernel
theorem dX12_goes_133 : decode cX12_goes 133 = .ok (.if_icmp .ge 26, 3) := by decide +kernel
theorem dX12_goes_136 : decode cX12_goes 136 = .ok (.aload_n 0, 1) := by decide +kernel
theorem dX12_goes_137 : decode cX12_goes 137 = .ok (.aload_n 0, 1) := by decide +kernel
theorem dX12_goes_138 : decode cX12_goes 138 = .ok (.getfield 125, 3) := by decide +kernel
theorem dX12_goes_141 : decode cX12_goes 141 = .ok (.iconst 5, 1) := by decide +kernel
theorem dX12_goes_142 : decode cX12_goes 142 = .ok (.lshl, 1) := by decide +kernel
theorem dX12_goes_143 : decode cX12_goes 143 = .ok (.aload_n 0, 1) := by decide +kernel
theorem dX12_goes_144 : decode cX12_goes 144 = .ok (.aload_n 0, 1) := by decide +kernel
theorem dX12_goes_145 : decode cX12_goes 145 = .ok (.getfield 115, 3) := by decide +kernel
theorem dX12_goes_148 : decode cX12_goes 148 = .ok (.invokevirtual 118, 3) := by decide +kernel
theorem dX12_goes_151 : decode cX12_goes 151 = .ok (.bipush 96, 2) := by decide +kernel
theorem dX12_goes_153 : decode cX12_goes 153 = .ok (.isub, 1) := by decide +kernel
theorem dX12_goes_154 : decode cX12_goes 154 = .ok (.i2l, 1) := by decide +kernel
theorem dX12_goes_155 : decode cX12_goes 155 = .ok (.lor, 1) := by decide +kernel
theorem dX12_goes_156 : decode cX12_goes 156 = .ok (.putfield 125, 3) := by decide +kernel
theorem dX12_goes_159 : decode cX12_goes 159 = .ok (.aload_n 0, 1) := by decide +kernel
theorem dX12_goes_160 : decode cX12_goes 160 = .ok (.dup, 1) := by decide +kernel
theorem dX12_goes_161 : decode cX12_goes 161 = .ok (.getfield 115, 3) := by decide +kernel
theorem dX12_goes_164 : decode cX12_goes 164 = .ok (.iconst 1, 1) := by decide +kernel
theorem dX12_goes_165 : decode cX12_goes 165 = .ok (.iadd, 1) := by decide +kernel
theorem dX12_goes_166 : decode cX12_goes 166 = .ok (.putfield 115, 3) := by decide +kernel
theorem dX12_goes_169 : decode cX12_goes 169 = .ok (.goto (-61), 3) := by decide +kernel
theorem dX12_goes_172 : decode cX12_goes 172 = .ok (.aload_n 0, 1) := by decide +kernel
theorem dX12_goes_173 : decode cX12_goes 173 = .ok (.iconst 1, 1) := by decide +kernel
theorem dX12_goes_174 : decode cX12_goes 174 = .ok (.putfield 135, 3) := by decide +kernel
theorem dX12_goes_177 : decode cX12_goes 177 = .ok (.goto 154, 3) := by decide +kernel
theorem dX12_goes_180 : decode cX12_goes 180 = .ok (.iload_n 1, 1) := by decide +kernel
theorem dX12_goes_181 : decode cX12_goes 181 = .ok (.invokestatic 142, 3) := by decide +kernel
theorem dX12_goes_184 : decode cX12_goes 184 = .ok (.ifCond .eq 74, 3) := by decide +kernel
theorem dX12_goes_187 : decode cX12_goes 187 = .ok (.aload_n 0, 1) := by decide +kernel
theorem dX12_goes_188 : decode cX12_goes 188 = .ok (.aload_n 0, 1) := by decide +kernel
theorem dX12_goes_189 : decode cX12_goes 189 = .ok (.getfield 115, 3) := by decide +kernel
theorem dX12_goes_192 : decode cX12_goes 192 = .ok (.invokevirtual 118, 3) := by decide +kernel
theorem dX12_goes_195 : decode cX12_goes 195 = .ok (.invokestatic 142, 3) := by decide +kernel
theorem dX12_goes_198 : decode cX12_goes 198 = .ok (.ifCond .eq 52, 3) := by decide +kernel
theorem dX12_goes_201 : decode cX12_goes 201 = .ok (.aload_n 0, 1) := by decide +kernel
theorem dX12_goes_202 : decode cX12_goes 202 = .ok (.getfield 115, 3) := by decide +kernel
theorem dX12_goes_205 : decode cX12_goes 205 = .ok (.aload_n 0, 1) := by decide +kernel
theorem dX12_goes_206 : decode cX12_goes 206 = .ok (.getfield 122, 3) := by decide +kernel
theorem dX12_goes_209 : decode cX12_goes 209 = .ok (.isub, 1) := by decide +kernel
theorem dX12_goes_210 : decode cX12_goes 210 = .ok (.iconst 4, 1) := by decide +kernel
theorem dX12_goes_211 : decode cX12_goes 211 = .ok (.if_icmp .ge 26, 3) := by decide +kernel
theorem dX12_goes_214 : decode cX12_goes 214 = .ok (.aload_n 0, 1) := by decide +kernel
theorem dX12_goes_215 : decode cX12_goes 215 = .ok (.bipush 10, 2) := by decide +kernel
theorem dX12_goes_217 : decode cX12_goes 217 = .ok (.aload_n 0, 1) := by decide +kernel
theorem dX12_goes_218 : decode cX12_goes 218 = .ok (.getfield 129, 3) := by decide +kernel
theorem dX12_goes_221 : decode cX12_goes 221 = .ok (.imul, 1) := by decide +kernel
theorem dX12_goes_222 : decode cX12_goes 222 = .ok (.aload_n 0, 1) := by decide +kernel
theorem dX12_goes_223 : decode cX12_goes 223 = .ok (.aload_n 0, 1) := by decide +kernel
theorem dX12_goes_224 : decode cX12_goes 224 = .ok (.getfield 115, 3) := by decide +kernel
theorem dX12_goes_227 : decode cX12_goes 227 = .ok (.invokevirtual 118, 3) := by decide +kernel
theorem dX12_goes_230 : decode cX12_goes 230 = .ok (.iadd, 1) := by decide +kernel
theorem dX12_goes_231 : decode cX12_goes 231 = .ok (.bipush 48, 2) := by decide +kernel
theorem dX12_goes_233 : decode cX12_goes 233 = .ok (.isub, 1) := by decide +kernel
theorem dX12_goes_234 : decode cX12_goes 234 = .ok (.putfield 129, 3) := by decide +kernel
theorem dX12_goes_237 : decode cX12_goes 237 = .ok (.aload_n 0, 1) := by decide +kernel
theorem dX12_goes_238 : decode cX12_goes 238 = .ok (.dup, 1) := by decide +kernel
theorem dX12_goes_239 : decode cX12_goes 239 = .ok (.getfield 115, 3) := by decide +kernel
theorem dX12_goes_242 : decode cX12_goes 242 = .ok (.iconst 1, 1) := by decide +kernel
theorem dX12_goes_243 : decode cX12_goes 243 = .ok (.iadd, 1) := by decide +kernel
theorem dX12_goes_244 : decode cX12_goes 244 = .ok (.putfield 115, 3) := by decide +kernel
theorem dX12_goes_247 : decode cX12_goes 247 = .ok (.goto (-60), 3) := by decide +kernel
theorem dX12_goes_250 : decode cX12_goes 250 = .ok (.aload_n 0, 1) := by decide +kernel
theorem dX12_goes_251 : decode cX12_goes 251 = .ok (.iconst 2, 1) := by decide +kernel
theorem dX12_goes_252 : decode cX12_goes 252 = .ok (.putfield 135, 3) := by decide +kernel
theorem dX12_goes_255 : decode cX12_goes 255 = .ok (.goto 76, 3) := by decide +kernel
theorem dX12_goes_258 : decode cX12_goes 258 = .ok (.aload_n 0, 1) := by decide +kernel
theorem dX12_goes_259 : decode cX12_goes 259 = .ok (.dup, 1) := by decide +kernel
theorem dX12_goes_260 : decode cX12_goes 260 = .ok (.getfield 115, 3) := by decide +kernel
theorem dX12_goes_263 : decode cX12_goes 263 = .ok (.iconst 1, 1) := by decide +kernel
theorem dX12_goes_264 : decode cX12_goes 264 = .ok (.iadd, 1) := by decide +kernel
theorem dX12_goes_265 : decode cX12_goes 265 = .ok (.putfield 115, 3) := by decide +kernel
theorem dX12_goes_268 : decode cX12_goes 268 = .ok (.aload_n 0, 1) := by decide +kernel
theorem dX12_goes_269 : decode cX12_goes 269 = .ok (.iload_n 1, 1) := by decide +kernel
theorem dX12_goes_270 : decode cX12_goes 270 = .ok (.bipush 59, 2) := by decide +kernel
theorem dX12_goes_272 : decode cX12_goes 272 = .ok (.if_icmp .eq 51, 3) := by decide +kernel
theorem dX12_goes_275 : decode cX12_goes 275 = .ok (.iload_n 1, 1) := by decide +kernel
theorem dX12_goes_276 : decode cX12_goes 276 = .ok (.bipush 40, 2) := by decide +kernel
theorem dX12_goes_278 : decode cX12_goes 278 = .ok (.if_icmp .eq 45, 3) := by decide +kernel
theorem dX12_goes_281 : decode cX12_goes 281 = .ok (.iload_n 1, 1) := by decide +kernel
theorem dX12_goes_282 : decode cX12_goes 282 = .ok (.bipush 41, 2) := by decide +kernel
theorem dX12_goes_284 : decode cX12_goes 284 = .ok (.if_icmp .eq 39, 3) := by decide +kernel
theorem dX12_goes_287 : decode cX12_goes 287 = .ok (.iload_n 1, 1) := by decide +kernel
theorem dX12_goes_288 : decode cX12_goes 288 = .ok (.bipush 43, 2) := by decide +kernel
theorem dX12_goes_290 : decode cX12_goes 290 = .ok (.if_icmp .eq 33, 3) := by decide +kernel
theorem dX12_goes_293 : decode cX12_goes 293 = .ok (.iload_n 1, 1) := by decide +kernel
theorem dX12_goes_294 : decode cX12_goes 294 = .ok (.bipush 45, 2) := by decide +kernel
theorem dX12_goes_296 : decode cX12_goes 296 = .ok (.if_icmp .eq 27, 3) := by decide +kernel
theorem dX12_goes_299 : decode cX12_goes 299 = .ok (.iload_n 1, 1) := by decide +kernel
theorem dX12_goes_300 : decode cX12_goes 300 = .ok (.bipush 42, 2) := by decide +kernel
theorem dX12_goes_302 : decode cX12_goes 302 = .ok (.if_icmp .eq 21, 3) := by decide +kernel
theorem dX12_goes_305 : decode cX12_goes 305 = .ok (.iload_n 1, 1) := by decide +kernel
theorem dX12_goes_306 : decode cX12_goes 306 = .ok (.bipush 47, 2) := by decide +kernel
theorem dX12_goes_308 : decode cX12_goes 308 = .ok (.if_icmp .eq 15, 3) := by decide +kernel
theorem dX12_goes_311 : decode cX12_goes 311 = .ok (.iload_n 1, 1) := by decide +kernel
theorem dX12_goes_312 : decode cX12_goes 312 = .ok (.bipush 60, 2) := by decide +kernel
theorem dX12_goes_314 : decode cX12_goes 314 = .ok (.if_icmp .eq 9, 3) := by decide +kernel
theorem dX12_goes_317 : decode cX12_goes 317 = .ok (.iload_n 1, 1) := by decide +kernel
theorem dX12_goes_318 : decode cX12_goes 318 = .ok (.bipush 61, 2) := by decide +kernel
theorem dX12_goes_320 : decode cX12_goes 320 = .ok (.if_icmp .ne 7, 3) := by decide +kernel
theorem dX12_goes_323 : decode cX12_goes 323 = .ok (.iconst 3, 1) := by decide +kernel
theorem dX12_goes_324 : decode cX12_goes 324 = .ok (.goto 4, 3) := by decide +kernel
theorem dX12_goes_327 : decode cX12_goes 327 = .ok (.iconst 4, 1) := by decide +kernel
theorem dX12_goes_328 : decode cX12_goes 328 = .ok (.putfield 135, 3) := by decide +kernel
theorem dX12_goes_331 : decode cX12_goes 331 = .ok (.aload_n 0, 1) := by decide +kernel
theorem dX12_goes_332 : decode cX12_goes 332 = .ok (.aload_n 0, 1) := by decide +kernel
theorem dX12_goes_333 : decode cX12_goes 333 = .ok (.getfield 115, 3) := by decide +kernel
theorem dX12_goes_336 : decode cX12_goes 336 = .ok (.aload_n 0, 1) := by decide +kernel
theorem dX12_goes_337 : decode cX12_goes 337 = .ok (.getfield 122, 3) := by decide +kernel
theorem dX12_goes_340 : decode cX12_goes 340 = .ok (.isub, 1) := by decide +kernel
theorem dX12_goes_341 : decode cX12_goes 341 = .ok (.putfield 145, 3) := by decide +kernel
theorem dX12_goes_344 : decode cX12_goes 344 = .ok (.return_, 1) := by decide +kernel
abbrev w_X12_goes (E : gs_E) (a_t a_t_tape a_t_songLong a_t_firstNote a_t_wit a_t_code a_t_refused a_t_newSongLong a_t_newFirstNote a_t_newWit a_t_newRow a_t_readCode a_t_waits a_t_tested a_t_isTold a_t_rows a_t_ahead a_t_told a_t_pile a_t_common a_t_mostOf a_t_likes a_t_heard a_t_soon a_t_soonAll a_t_imageRow a_t_imageAhead a_t_imageHears : Nat) (v_t_thrown : Int32) (v_t_songs : Int32) (v_t_people : Int32) (v_t_forgetsAt : Int32) (v_t_fillsAt : Int32) (v_t_taped : Int32) (v_t_faultKind : Int32) (v_t_faultPlace : Int32) (v_t_long1 : Int32) (v_t_next0 : Int32) (v_t_sort : Int32) (v_t_place : Int32) (v_t_long0 : Int32) (v_t_value : Int32) (v_t_sign : Int32) (v_t_word : Int64) (v_t_newSongs : Int32) (v_t_newPeople : Int32) (v_t_newForgetsAt : Int32) (v_t_newFillsAt : Int32) (v_t_top : Int32) (v_t_firstValue : Int32) (v_t_lastValue : Int32) (v_t_waiting : Int32) (v_t_depth : Int32) (v_t_acts : Int32) (v_t_isWinter : Int32) (v_t_learntNow : Int32) (v_t_forgottenNow : Int32) (v_t_heardMany : Int32) (v_t_its0 : Int32) (v_t_hasImage : Int32) (v_t_imageActs : Int32) (v_t_imageHeard : Int32) (r_t_tape : Nat → Int32) : va_W := [(a_t, .inr (12, [.int v_t_thrown, .int v_t_songs, .int v_t_people, .int v_t_forgetsAt, .int v_t_fillsAt, .ref a_t_songLong, .ref a_t_firstNote, .ref a_t_wit, .ref a_t_code, .ref a_t_tape, .int v_t_taped, .int v_t_faultKind, .int v_t_faultPlace, .ref a_t_refused, .int v_t_long1, .int v_t_next0, .int v_t_sort, .int v_t_place, .int v_t_long0, .int v_t_value, .int v_t_sign, .long v_t_word, .int v_t_newSongs, .int v_t_newPeople, .int v_t_newForgetsAt, .int v_t_newFillsAt, .int v_t_top, .int v_t_firstValue, .int v_t_lastValue, .int v_t_waiting, .int v_t_depth, .ref a_t_newSongLong, .ref a_t_newFirstNote, .ref a_t_newWit, .ref a_t_newRow, .ref a_t_readCode, .ref a_t_waits, .ref a_t_tested, .ref a_t_isTold, .ref a_t_rows, .ref a_t_ahead, .int v_t_acts, .ref a_t_told, .ref a_t_pile, .int v_t_isWinter, .int v_t_learntNow, .int v_t_forgottenNow, .ref a_t_common, .ref a_t_mostOf, .ref a_t_likes, .int v_t_heardMany, .ref a_t_heard, .ref a_t_soon, .ref a_t_soonAll, .int v_t_its0, .int v_t_hasImage, .int v_t_imageActs, .int v_t_imageHeard, .ref a_t_imageRow, .ref a_t_imageAhead, .ref a_t_imageHears])), (a_t_tape, .inl (E.2.1, 700, .inl r_t_tape))]
abbrev rm_X12_goes : Room := { frames := 1, cells := 0, slots := 0, locals := 21 }
def S_X12_goes_0 (p : Program) (l : Launch) (e : Env) (s : State) (m : MethodId) (args : Array Value) (below : List Frame) (meth : Method) (c : Code) (Q : State → Prop) (a_t a_t_tape a_t_songLong a_t_firstNote a_t_wit a_t_code a_t_refused a_t_newSongLong a_t_newFirstNote a_t_newWit a_t_newRow a_t_readCode a_t_waits a_t_tested a_t_isTold a_t_rows a_t_ahead a_t_told a_t_pile a_t_common a_t_mostOf a_t_likes a_t_heard a_t_soon a_t_soonAll a_t_imageRow a_t_imageAhead a_t_imageHears : Nat) (E : gs_E) (A : Nat → Prop) (v_t_thrown : Int32) (v_t_songs : Int32) (v_t_people : Int32) (v_t_forgetsAt : Int32) (v_t_fillsAt : Int32) (v_t_taped : Int32) (v_t_faultKind : Int32) (v_t_faultPlace : Int32) (v_t_long1 : Int32) (v_t_next0 : Int32) (v_t_sort : Int32) (v_t_place : Int32) (v_t_long0 : Int32) (v_t_value : Int32) (v_t_sign : Int32) (v_t_word : Int64) (v_t_newSongs : Int32) (v_t_newPeople : Int32) (v_t_newForgetsAt : Int32) (v_t_newFillsAt : Int32) (v_t_top : Int32) (v_t_firstValue : Int32) (v_t_lastValue : Int32) (v_t_waiting : Int32) (v_t_depth : Int32) (v_t_acts : Int32) (v_t_isWinter : Int32) (v_t_learntNow : Int32) (v_t_forgottenNow : Int32) (v_t_heardMany : Int32) (v_t_its0 : Int32) (v_t_hasImage : Int32) (v_t_imageActs : Int32) (v_t_imageHeard : Int32) (r_t_tape : Nat → Int32) : Prop := ∀ (H : Heap) (locs : List Loc) (ls : Array Slot), va_P E.1 vwCl (w_X12_goes E a_t a_t_tape a_t_songLong a_t_firstNote a_t_wit a_t_code a_t_refused a_t_newSongLong a_t_newFirstNote a_t_newWit a_t_newRow a_t_readCode a_t_waits a_t_tested a_t_isTold a_t_rows a_t_ahead a_t_told a_t_pile a_t_common a_t_mostOf a_t_likes a_t_heard a_t_soon a_t_soonAll a_t_imageRow a_t_imageAhead a_t_imageHears v_t_thrown v_t_songs v_t_people v_t_forgetsAt v_t_fillsAt v_t_taped v_t_faultKind v_t_faultPlace v_t_long1 v_t_next0 v_t_sort v_t_place v_t_long0 v_t_value v_t_sign v_t_word v_t_newSongs v_t_newPeople v_t_newForgetsAt v_t_newFillsAt v_t_top v_t_firstValue v_t_lastValue v_t_waiting v_t_depth v_t_acts v_t_isWinter v_t_learntNow v_t_forgottenNow v_t_heardMany v_t_its0 v_t_hasImage v_t_imageActs v_t_imageHeard r_t_tape) H → va_D A (w_X12_goes E a_t a_t_tape a_t_songLong a_t_firstNote a_t_wit a_t_code a_t_refused a_t_newSongLong a_t_newFirstNote a_t_newWit a_t_newRow a_t_readCode a_t_waits a_t_tested a_t_isTold a_t_rows a_t_ahead a_t_told a_t_pile a_t_common a_t_mostOf a_t_likes a_t_heard a_t_soon a_t_soonAll a_t_imageRow a_t_imageAhead a_t_imageHears v_t_thrown v_t_songs v_t_people v_t_forgetsAt v_t_fillsAt v_t_taped v_t_faultKind v_t_faultPlace v_t_long1 v_t_next0 v_t_sort v_t_place v_t_long0 v_t_value v_t_sign v_t_word v_t_newSongs v_t_newPeople v_t_newForgetsAt v_t_newFillsAt v_t_top v_t_firstValue v_t_lastValue v_t_waiting v_t_depth v_t_acts v_t_isWinter v_t_learntNow v_t_forgottenNow v_t_heardMany v_t_its0 v_t_hasImage v_t_imageActs v_t_imageHeard r_t_tape) → va_S A s.heap H locs → lv_has ls 2 [(0, .ref a_t)] → W p l e rm_X12_goes s m args below meth c H locs 0 0 Q (F0 m 0 ls [])
def S_X12_goes_50 (p : Program) (l : Launch) (e : Env) (s : State) (m : MethodId) (args : Array Value) (below : List Frame) (meth : Method) (c : Code) (Q : State → Prop) (a_t a_t_tape a_t_songLong a_t_firstNote a_t_wit a_t_code a_t_refused a_t_newSongLong a_t_newFirstNote a_t_newWit a_t_newRow a_t_readCode a_t_waits a_t_tested a_t_isTold a_t_rows a_t_ahead a_t_told a_t_pile a_t_common a_t_mostOf a_t_likes a_t_heard a_t_soon a_t_soonAll a_t_imageRow a_t_imageAhead a_t_imageHears : Nat) (E : gs_E) (A : Nat → Prop) (v_t_thrown : Int32) (v_t_songs : Int32) (v_t_people : Int32) (v_t_forgetsAt : Int32) (v_t_fillsAt : Int32) (v_t_taped : Int32) (v_t_faultKind : Int32) (v_t_faultPlace : Int32) (v_t_long1 : Int32) (v_t_next0 : Int32) (v_t_sort : Int32) (v_t_place : Int32) (v_t_long0 : Int32) (v_t_value : Int32) (v_t_sign : Int32) (v_t_word : Int64) (v_t_newSongs : Int32) (v_t_newPeople : Int32) (v_t_newForgetsAt : Int32) (v_t_newFillsAt : Int32) (v_t_top : Int32) (v_t_firstValue : Int32) (v_t_lastValue : Int32) (v_t_waiting : Int32) (v_t_depth : Int32) (v_t_acts : Int32) (v_t_isWinter : Int32) (v_t_learntNow : Int32) (v_t_forgottenNow : Int32) (v_t_heardMany : Int32) (v_t_its0 : Int32) (v_t_hasImage : Int32) (v_t_imageActs : Int32) (v_t_imageHeard : Int32) (r_t_tape : Nat → Int32) : Prop := ∀ (H : Heap) (locs : List Loc) (ls : Array Slot), va_P E.1 vwCl (w_X12_goes E a_t a_t_tape a_t_songLong a_t_firstNote a_t_wit a_t_code a_t_refused a_t_newSongLong a_t_newFirstNote a_t_newWit a_t_newRow a_t_readCode a_t_waits a_t_tested a_t_isTold a_t_rows a_t_ahead a_t_told a_t_pile a_t_common a_t_mostOf a_t_likes a_t_heard a_t_soon a_t_soonAll a_t_imageRow a_t_imageAhead a_t_imageHears v_t_thrown v_t_songs v_t_people v_t_forgetsAt v_t_fillsAt v_t_taped v_t_faultKind v_t_faultPlace v_t_long1 v_t_next0 v_t_sort v_t_place v_t_long0 v_t_value v_t_sign v_t_word v_t_newSongs v_t_newPeople v_t_newForgetsAt v_t_newFillsAt v_t_top v_t_firstValue v_t_lastValue v_t_waiting v_t_depth v_t_acts v_t_isWinter v_t_learntNow v_t_forgottenNow v_t_heardMany v_t_its0 v_t_hasImage v_t_imageActs v_t_imageHeard r_t_tape) H → va_D A (w_X12_goes E a_t a_t_tape a_t_songLong a_t_firstNote a_t_wit a_t_code a_t_refused a_t_newSongLong a_t_newFirstNote a_t_newWit a_t_newRow a_t_readCode a_t_waits a_t_tested a_t_isTold a_t_rows a_t_ahead a_t_told a_t_pile a_t_common a_t_mostOf a_t_likes a_t_heard a_t_soon a_t_soonAll a_t_imageRow a_t_imageAhead a_t_imageHears v_t_thrown v_t_songs v_t_people v_t_forgetsAt v_t_fillsAt v_t_taped v_t_faultKind v_t_faultPlace v_t_long1 v_t_next0 v_t_sort v_t_place v_t_long0 v_t_value v_t_sign v_t_word v_t_newSongs v_t_newPeople v_t_newForgetsAt v_t_newFillsAt v_t_top v_t_firstValue v_t_lastValue v_t_waiting v_t_depth v_t_acts v_t_isWinter v_t_learntNow v_t_forgottenNow v_t_heardMany v_t_its0 v_t_hasImage v_t_imageActs v_t_imageHeard r_t_tape) → va_S A s.heap H locs → lv_has ls 2 [(0, .ref a_t)] → W p l e rm_X12_goes s m args below meth c H locs 0 0 Q (F0 m 50 ls [])
def S_X12_goes_108 (p : Program) (l : Launch) (e : Env) (s : State) (m : MethodId) (args : Array Value) (below : List Frame) (meth : Method) (c : Code) (Q : State → Prop) (a_t a_t_tape a_t_songLong a_t_firstNote a_t_wit a_t_code a_t_refused a_t_newSongLong a_t_newFirstNote a_t_newWit a_t_newRow a_t_readCode a_t_waits a_t_tested a_t_isTold a_t_rows a_t_ahead a_t_told a_t_pile a_t_common a_t_mostOf a_t_likes a_t_heard a_t_soon a_t_soonAll a_t_imageRow a_t_imageAhead a_t_imageHears : Nat) (E : gs_E) (A : Nat → Prop) (v_t_thrown : Int32) (v_t_songs : Int32) (v_t_people : Int32) (v_t_forgetsAt : Int32) (v_t_fillsAt : Int32) (v_t_taped : Int32) (v_t_faultKind : Int32) (v_t_faultPlace : Int32) (v_t_long1 : Int32) (v_t_next0 : Int32) (v_t_sort : Int32) (v_t_place : Int32) (v_t_long0 : Int32) (v_t_value : Int32) (v_t_sign : Int32) (v_t_word : Int64) (v_t_newSongs : Int32) (v_t_newPeople : Int32) (v_t_newForgetsAt : Int32) (v_t_newFillsAt : Int32) (v_t_top : Int32) (v_t_firstValue : Int32) (v_t_lastValue : Int32) (v_t_waiting : Int32) (v_t_depth : Int32) (v_t_acts : Int32) (v_t_isWinter : Int32) (v_t_learntNow : Int32) (v_t_forgottenNow : Int32) (v_t_heardMany : Int32) (v_t_its0 : Int32) (v_t_hasImage : Int32) (v_t_imageActs : Int32) (v_t_imageHeard : Int32) (r_t_tape : Nat → Int32) : Prop := ∀ (H : Heap) (locs : List Loc) (ls : Array Slot), va_P E.1 vwCl (w_X12_goes E a_t a_t_tape a_t_songLong a_t_firstNote a_t_wit a_t_code a_t_refused a_t_newSongLong a_t_newFirstNote a_t_newWit a_t_newRow a_t_readCode a_t_waits a_t_tested a_t_isTold a_t_rows a_t_ahead a_t_told a_t_pile a_t_common a_t_mostOf a_t_likes a_t_heard a_t_soon a_t_soonAll a_t_imageRow a_t_imageAhead a_t_imageHears v_t_thrown v_t_songs v_t_people v_t_forgetsAt v_t_fillsAt v_t_taped v_t_faultKind v_t_faultPlace v_t_long1 v_t_next0 v_t_sort v_t_place v_t_long0 v_t_value v_t_sign v_t_word v_t_newSongs v_t_newPeople v_t_newForgetsAt v_t_newFillsAt v_t_top v_t_firstValue v_t_lastValue v_t_waiting v_t_depth v_t_acts v_t_isWinter v_t_learntNow v_t_forgottenNow v_t_heardMany v_t_its0 v_t_hasImage v_t_imageActs v_t_imageHeard r_t_tape) H → va_D A (w_X12_goes E a_t a_t_tape a_t_songLong a_t_firstNote a_t_wit a_t_code a_t_refused a_t_newSongLong a_t_newFirstNote a_t_newWit a_t_newRow a_t_readCode a_t_waits a_t_tested a_t_isTold a_t_rows a_t_ahead a_t_told a_t_pile a_t_common a_t_mostOf a_t_likes a_t_heard a_t_soon a_t_soonAll a_t_imageRow a_t_imageAhead a_t_imageHears v_t_thrown v_t_songs v_t_people v_t_forgetsAt v_t_fillsAt v_t_taped v_t_faultKind v_t_faultPlace v_t_long1 v_t_next0 v_t_sort v_t_place v_t_long0 v_t_value v_t_sign v_t_word v_t_newSongs v_t_newPeople v_t_newForgetsAt v_t_newFillsAt v_t_top v_t_firstValue v_t_lastValue v_t_waiting v_t_depth v_t_acts v_t_isWinter v_t_learntNow v_t_forgottenNow v_t_heardMany v_t_its0 v_t_hasImage v_t_imageActs v_t_imageHeard r_t_tape) → va_S A s.heap H locs → lv_has ls 2 [(0, .ref a_t)] → W p l e rm_X12_goes s m args below meth c H locs 0 0 Q (F0 m 108 ls [])
def S_X12_goes_172 (p : Program) (l : Launch) (e : Env) (s : State) (m : MethodId) (args : Array Value) (below : List Frame) (meth : Method) (c : Code) (Q : State → Prop) (a_t a_t_tape a_t_songLong a_t_firstNote a_t_wit a_t_code a_t_refused a_t_newSongLong a_t_newFirstNote a_t_newWit a_t_newRow a_t_readCode a_t_waits a_t_tested a_t_isTold a_t_rows a_t_ahead a_t_told a_t_pile a_t_common a_t_mostOf a_t_likes a_t_heard a_t_soon a_t_soonAll a_t_imageRow a_t_imageAhead a_t_imageHears : Nat) (E : gs_E) (A : Nat → Prop) (v_t_thrown : Int32) (v_t_songs : Int32) (v_t_people : Int32) (v_t_forgetsAt : Int32) (v_t_fillsAt : Int32) (v_t_taped : Int32) (v_t_faultKind : Int32) (v_t_faultPlace : Int32) (v_t_long1 : Int32) (v_t_next0 : Int32) (v_t_sort : Int32) (v_t_place : Int32) (v_t_long0 : Int32) (v_t_value : Int32) (v_t_sign : Int32) (v_t_word : Int64) (v_t_newSongs : Int32) (v_t_newPeople : Int32) (v_t_newForgetsAt : Int32) (v_t_newFillsAt : Int32) (v_t_top : Int32) (v_t_firstValue : Int32) (v_t_lastValue : Int32) (v_t_waiting : Int32) (v_t_depth : Int32) (v_t_acts : Int32) (v_t_isWinter : Int32) (v_t_learntNow : Int32) (v_t_forgottenNow : Int32) (v_t_heardMany : Int32) (v_t_its0 : Int32) (v_t_hasImage : Int32) (v_t_imageActs : Int32) (v_t_imageHeard : Int32) (r_t_tape : Nat → Int32) : Prop := ∀ (H : Heap) (locs : List Loc) (ls : Array Slot), va_P E.1 vwCl (w_X12_goes E a_t a_t_tape a_t_songLong a_t_firstNote a_t_wit a_t_code a_t_refused a_t_newSongLong a_t_newFirstNote a_t_newWit a_t_newRow a_t_readCode a_t_waits a_t_tested a_t_isTold a_t_rows a_t_ahead a_t_told a_t_pile a_t_common a_t_mostOf a_t_likes a_t_heard a_t_soon a_t_soonAll a_t_imageRow a_t_imageAhead a_t_imageHears v_t_thrown v_t_songs v_t_people v_t_forgetsAt v_t_fillsAt v_t_taped v_t_faultKind v_t_faultPlace v_t_long1 v_t_next0 v_t_sort v_t_place v_t_long0 v_t_value v_t_sign v_t_word v_t_newSongs v_t_newPeople v_t_newForgetsAt v_t_newFillsAt v_t_top v_t_firstValue v_t_lastValue v_t_waiting v_t_depth v_t_acts v_t_isWinter v_t_learntNow v_t_forgottenNow v_t_heardMany v_t_its0 v_t_hasImage v_t_imageActs v_t_imageHeard r_t_tape) H → va_D A (w_X12_goes E a_t a_t_tape a_t_songLong a_t_firstNote a_t_wit a_t_code a_t_refused a_t_newSongLong a_t_newFirstNote a_t_newWit a_t_newRow a_t_readCode a_t_waits a_t_tested a_t_isTold a_t_rows a_t_ahead a_t_told a_t_pile a_t_common a_t_mostOf a_t_likes a_t_heard a_t_soon a_t_soonAll a_t_imageRow a_t_imageAhead a_t_imageHears v_t_thrown v_t_songs v_t_people v_t_forgetsAt v_t_fillsAt v_t_taped v_t_faultKind v_t_faultPlace v_t_long1 v_t_next0 v_t_sort v_t_place v_t_long0 v_t_value v_t_sign v_t_word v_t_newSongs v_t_newPeople v_t_newForgetsAt v_t_newFillsAt v_t_top v_t_firstValue v_t_lastValue v_t_waiting v_t_depth v_t_acts v_t_isWinter v_t_learntNow v_t_forgottenNow v_t_heardMany v_t_its0 v_t_hasImage v_t_imageActs v_t_imageHeard r_t_tape) → va_S A s.heap H locs → lv_has ls 2 [(0, .ref a_t)] → W p l e rm_X12_goes s m args below meth c H locs 0 0 Q (F0 m 172 ls [])
def S_X12_goes_187 (p : Program) (l : Launch) (e : Env) (s : State) (m : MethodId) (args : Array Value) (below : List Frame) (meth : Method) (c : Code) (Q : State → Prop) (a_t a_t_tape a_t_songLong a_t_firstNote a_t_wit a_t_code a_t_refused a_t_newSongLong a_t_newFirstNote a_t_newWit a_t_newRow a_t_readCode a_t_waits a_t_tested a_t_isTold a_t_rows a_t_ahead a_t_told a_t_pile a_t_common a_t_mostOf a_t_likes a_t_heard a_t_soon a_t_soonAll a_t_imageRow a_t_imageAhead a_t_imageHears : Nat) (E : gs_E) (A : Nat → Prop) (v_t_thrown : Int32) (v_t_songs : Int32) (v_t_people : Int32) (v_t_forgetsAt : Int32) (v_t_fillsAt : Int32) (v_t_taped : Int32) (v_t_faultKind : Int32) (v_t_faultPlace : Int32) (v_t_long1 : Int32) (v_t_next0 : Int32) (v_t_sort : Int32) (v_t_place : Int32) (v_t_long0 : Int32) (v_t_value : Int32) (v_t_sign : Int32) (v_t_word : Int64) (v_t_newSongs : Int32) (v_t_newPeople : Int32) (v_t_newForgetsAt : Int32) (v_t_newFillsAt : Int32) (v_t_top : Int32) (v_t_firstValue : Int32) (v_t_lastValue : Int32) (v_t_waiting : Int32) (v_t_depth : Int32) (v_t_acts : Int32) (v_t_isWinter : Int32) (v_t_learntNow : Int32) (v_t_forgottenNow : Int32) (v_t_heardMany : Int32) (v_t_its0 : Int32) (v_t_hasImage : Int32) (v_t_imageActs : Int32) (v_t_imageHeard : Int32) (r_t_tape : Nat → Int32) : Prop := ∀ (H : Heap) (locs : List Loc) (ls : Array Slot), va_P E.1 vwCl (w_X12_goes E a_t a_t_tape a_t_songLong a_t_firstNote a_t_wit a_t_code a_t_refused a_t_newSongLong a_t_newFirstNote a_t_newWit a_t_newRow a_t_readCode a_t_waits a_t_tested a_t_isTold a_t_rows a_t_ahead a_t_told a_t_pile a_t_common a_t_mostOf a_t_likes a_t_heard a_t_soon a_t_soonAll a_t_imageRow a_t_imageAhead a_t_imageHears v_t_thrown v_t_songs v_t_people v_t_forgetsAt v_t_fillsAt v_t_taped v_t_faultKind v_t_faultPlace v_t_long1 v_t_next0 v_t_sort v_t_place v_t_long0 v_t_value v_t_sign v_t_word v_t_newSongs v_t_newPeople v_t_newForgetsAt v_t_newFillsAt v_t_top v_t_firstValue v_t_lastValue v_t_waiting v_t_depth v_t_acts v_t_isWinter v_t_learntNow v_t_forgottenNow v_t_heardMany v_t_its0 v_t_hasImage v_t_imageActs v_t_imageHeard r_t_tape) H → va_D A (w_X12_goes E a_t a_t_tape a_t_songLong a_t_firstNote a_t_wit a_t_code a_t_refused a_t_newSongLong a_t_newFirstNote a_t_newWit a_t_newRow a_t_readCode a_t_waits a_t_tested a_t_isTold a_t_rows a_t_ahead a_t_told a_t_pile a_t_common a_t_mostOf a_t_likes a_t_heard a_t_soon a_t_soonAll a_t_imageRow a_t_imageAhead a_t_imageHears v_t_thrown v_t_songs v_t_people v_t_forgetsAt v_t_fillsAt v_t_taped v_t_faultKind v_t_faultPlace v_t_long1 v_t_next0 v_t_sort v_t_place v_t_long0 v_t_value v_t_sign v_t_word v_t_newSongs v_t_newPeople v_t_newForgetsAt v_t_newFillsAt v_t_top v_t_firstValue v_t_lastValue v_t_waiting v_t_depth v_t_acts v_t_isWinter v_t_learntNow v_t_forgottenNow v_t_heardMany v_t_its0 v_t_hasImage v_t_imageActs v_t_imageHeard r_t_tape) → va_S A s.heap H locs → lv_has ls 2 [(0, .ref a_t)] → W p l e rm_X12_goes s m args below meth c H locs 0 0 Q (F0 m 187 ls [])
def S_X12_goes_250 (p : Program) (l : Launch) (e : Env) (s : State) (m : MethodId) (args : Array Value) (below : List Frame) (meth : Method) (c : Code) (Q : State → Prop) (a_t a_t_tape a_t_songLong a_t_firstNote a_t_wit a_t_code a_t_refused a_t_newSongLong a_t_newFirstNote a_t_newWit a_t_newRow a_t_readCode a_t_waits a_t_tested a_t_isTold a_t_rows a_t_ahead a_t_told a_t_pile a_t_common a_t_mostOf a_t_likes a_t_heard a_t_soon a_t_soonAll a_t_imageRow a_t_imageAhead a_t_imageHears : Nat) (E : gs_E) (A : Nat → Prop) (v_t_thrown : Int32) (v_t_songs : Int32) (v_t_people : Int32) (v_t_forgetsAt : Int32) (v_t_fillsAt : Int32) (v_t_taped : Int32) (v_t_faultKind : Int32) (v_t_faultPlace : Int32) (v_t_long1 : Int32) (v_t_next0 : Int32) (v_t_sort : Int32) (v_t_place : Int32) (v_t_long0 : Int32) (v_t_value : Int32) (v_t_sign : Int32) (v_t_word : Int64) (v_t_newSongs : Int32) (v_t_newPeople : Int32) (v_t_newForgetsAt : Int32) (v_t_newFillsAt : Int32) (v_t_top : Int32) (v_t_firstValue : Int32) (v_t_lastValue : Int32) (v_t_waiting : Int32) (v_t_depth : Int32) (v_t_acts : Int32) (v_t_isWinter : Int32) (v_t_learntNow : Int32) (v_t_forgottenNow : Int32) (v_t_heardMany : Int32) (v_t_its0 : Int32) (v_t_hasImage : Int32) (v_t_imageActs : Int32) (v_t_imageHeard : Int32) (r_t_tape : Nat → Int32) : Prop := ∀ (H : Heap) (locs : List Loc) (ls : Array Slot), va_P E.1 vwCl (w_X12_goes E a_t a_t_tape a_t_songLong a_t_firstNote a_t_wit a_t_code a_t_refused a_t_newSongLong a_t_newFirstNote a_t_newWit a_t_newRow a_t_readCode a_t_waits a_t_tested a_t_isTold a_t_rows a_t_ahead a_t_told a_t_pile a_t_common a_t_mostOf a_t_likes a_t_heard a_t_soon a_t_soonAll a_t_imageRow a_t_imageAhead a_t_imageHears v_t_thrown v_t_songs v_t_people v_t_forgetsAt v_t_fillsAt v_t_taped v_t_faultKind v_t_faultPlace v_t_long1 v_t_next0 v_t_sort v_t_place v_t_long0 v_t_value v_t_sign v_t_word v_t_newSongs v_t_newPeople v_t_newForgetsAt v_t_newFillsAt v_t_top v_t_firstValue v_t_lastValue v_t_waiting v_t_depth v_t_acts v_t_isWinter v_t_learntNow v_t_forgottenNow v_t_heardMany v_t_its0 v_t_hasImage v_t_imageActs v_t_imageHeard r_t_tape) H → va_D A (w_X12_goes E a_t a_t_tape a_t_songLong a_t_firstNote a_t_wit a_t_code a_t_refused a_t_newSongLong a_t_newFirstNote a_t_newWit a_t_newRow a_t_readCode a_t_waits a_t_tested a_t_isTold a_t_rows a_t_ahead a_t_told a_t_pile a_t_common a_t_mostOf a_t_likes a_t_heard a_t_soon a_t_soonAll a_t_imageRow a_t_imageAhead a_t_imageHears v_t_thrown v_t_songs v_t_people v_t_forgetsAt v_t_fillsAt v_t_taped v_t_faultKind v_t_faultPlace v_t_long1 v_t_next0 v_t_sort v_t_place v_t_long0 v_t_value v_t_sign v_t_word v_t_newSongs v_t_newPeople v_t_newForgetsAt v_t_newFillsAt v_t_top v_t_firstValue v_t_lastValue v_t_waiting v_t_depth v_t_acts v_t_isWinter v_t_learntNow v_t_forgottenNow v_t_heardMany v_t_its0 v_t_hasImage v_t_imageActs v_t_imageHeard r_t_tape) → va_S A s.heap H locs → lv_has ls 2 [(0, .ref a_t)] → W p l e rm_X12_goes s m args below meth c H locs 0 0 Q (F0 m 250 ls [])
def S_X12_goes_323 (p : Program) (l : Launch) (e : Env) (s : State) (m : MethodId) (args : Array Value) (below : List Frame) (meth : Method) (c : Code) (Q : State → Prop) (a_t a_t_tape a_t_songLong a_t_firstNote a_t_wit a_t_code a_t_refused a_t_newSongLong a_t_newFirstNote a_t_newWit a_t_newRow a_t_readCode a_t_waits a_t_tested a_t_isTold a_t_rows a_t_ahead a_t_told a_t_pile a_t_common a_t_mostOf a_t_likes a_t_heard a_t_soon a_t_soonAll a_t_imageRow a_t_imageAhead a_t_imageHears : Nat) (E : gs_E) (A : Nat → Prop) (v_t_thrown : Int32) (v_t_songs : Int32) (v_t_people : Int32) (v_t_forgetsAt : Int32) (v_t_fillsAt : Int32) (v_t_taped : Int32) (v_t_faultKind : Int32) (v_t_faultPlace : Int32) (v_t_long1 : Int32) (v_t_next0 : Int32) (v_t_sort : Int32) (v_t_place : Int32) (v_t_long0 : Int32) (v_t_value : Int32) (v_t_sign : Int32) (v_t_word : Int64) (v_t_newSongs : Int32) (v_t_newPeople : Int32) (v_t_newForgetsAt : Int32) (v_t_newFillsAt : Int32) (v_t_top : Int32) (v_t_firstValue : Int32) (v_t_lastValue : Int32) (v_t_waiting : Int32) (v_t_depth : Int32) (v_t_acts : Int32) (v_t_isWinter : Int32) (v_t_learntNow : Int32) (v_t_forgottenNow : Int32) (v_t_heardMany : Int32) (v_t_its0 : Int32) (v_t_hasImage : Int32) (v_t_imageActs : Int32) (v_t_imageHeard : Int32) (r_t_tape : Nat → Int32) : Prop := ∀ (H : Heap) (locs : List Loc) (ls : Array Slot), va_P E.1 vwCl (w_X12_goes E a_t a_t_tape a_t_songLong a_t_firstNote a_t_wit a_t_code a_t_refused a_t_newSongLong a_t_newFirstNote a_t_newWit a_t_newRow a_t_readCode a_t_waits a_t_tested a_t_isTold a_t_rows a_t_ahead a_t_told a_t_pile a_t_common a_t_mostOf a_t_likes a_t_heard a_t_soon a_t_soonAll a_t_imageRow a_t_imageAhead a_t_imageHears v_t_thrown v_t_songs v_t_people v_t_forgetsAt v_t_fillsAt v_t_taped v_t_faultKind v_t_faultPlace v_t_long1 v_t_next0 v_t_sort v_t_place v_t_long0 v_t_value v_t_sign v_t_word v_t_newSongs v_t_newPeople v_t_newForgetsAt v_t_newFillsAt v_t_top v_t_firstValue v_t_lastValue v_t_waiting v_t_depth v_t_acts v_t_isWinter v_t_learntNow v_t_forgottenNow v_t_heardMany v_t_its0 v_t_hasImage v_t_imageActs v_t_imageHeard r_t_tape) H → va_D A (w_X12_goes E a_t a_t_tape a_t_songLong a_t_firstNote a_t_wit a_t_code a_t_refused a_t_newSongLong a_t_newFirstNote a_t_newWit a_t_newRow a_t_readCode a_t_waits a_t_tested a_t_isTold a_t_rows a_t_ahead a_t_told a_t_pile a_t_common a_t_mostOf a_t_likes a_t_heard a_t_soon a_t_soonAll a_t_imageRow a_t_imageAhead a_t_imageHears v_t_thrown v_t_songs v_t_people v_t_forgetsAt v_t_fillsAt v_t_taped v_t_faultKind v_t_faultPlace v_t_long1 v_t_next0 v_t_sort v_t_place v_t_long0 v_t_value v_t_sign v_t_word v_t_newSongs v_t_newPeople v_t_newForgetsAt v_t_newFillsAt v_t_top v_t_firstValue v_t_lastValue v_t_waiting v_t_depth v_t_acts v_t_isWinter v_t_learntNow v_t_forgottenNow v_t_heardMany v_t_its0 v_t_hasImage v_t_imageActs v_t_imageHeard r_t_tape) → va_S A s.heap H locs → lv_has ls 2 [(0, .ref a_t)] → W p l e rm_X12_goes s m args below meth c H locs 0 0 Q (F0 m 323 ls [.ref a_t])
def f_X12_goes_0 (v_t_long1 : Int32) (r_t_tape : Nat → Int32) (K50 : Int32 → Option (Int32 × Int32 × Int32 × Int32 × Int32 × Int32 × Int64)) (K0 : Int32 → Option (Int32 × Int32 × Int32 × Int32 × Int32 × Int32 × Int64)) (v_t_next0 : Int32) : Option (Int32 × Int32 × Int32 × Int32 × Int32 × Int32 × Int64) :=
  if v_t_long1 ≤ v_t_next0 then
    K50 v_t_next0
  else
    gs_b1 (f_X12_byteAt v_t_next0 v_t_long1 r_t_tape) fun r2 =>
    if r2 = 32 then
      K0 (v_t_next0 + 1)
    else
      gs_b1 (f_X12_byteAt v_t_next0 v_t_long1 r_t_tape) fun r4 =>
      if r4 = 10 then
        K0 (v_t_next0 + 1)
      else
        K50 v_t_next0
set_option maxHeartbeats 4000000 in
set_option maxRecDepth 100000 in
theorem t_X12_goes_0_b {p : Program} {l : Launch} {e : Env} {s : State} {m : MethodId} {args : Array Value} {below : List Frame} {meth : Method} {c : Code} {Q : State → Prop} {E : gs_E} {A : Nat → Prop} {a_t a_t_tape a_t_songLong a_t_firstNote a_t_wit a_t_code a_t_refused a_t_newSongLong a_t_newFirstNote a_t_newWit a_t_newRow a_t_readCode a_t_waits a_t_tested a_t_isTold a_t_rows a_t_ahead a_t_told a_t_pile a_t_common a_t_mostOf a_t_likes a_t_heard a_t_soon a_t_soonAll a_t_imageRow a_t_imageAhead a_t_imageHears : Nat} {o_t_next0 : Int32} {o_t_sort : Int32} {o_t_place : Int32} {o_t_long0 : Int32} {o_t_value : Int32} {o_t_sign : Int32} {o_t_word : Int64} (X0 : gs_X wsX12_goes cX12_goes RX12 2 none p s m args meth c) (hk : gs_K E s) {v_t_thrown : Int32} {v_t_songs : Int32} {v_t_people : Int32} {v_t_forgetsAt : Int32} {v_t_fillsAt : Int32} {v_t_taped : Int32} {v_t_faultKind : Int32} {v_t_faultPlace : Int32} {v_t_long1 : Int32} {v_t_next0 : Int32} {v_t_sort : Int32} {v_t_place : Int32} {v_t_long0 : Int32} {v_t_value : Int32} {v_t_sign : Int32} {v_t_word : Int64} {v_t_newSongs : Int32} {v_t_newPeople : Int32} {v_t_newForgetsAt : Int32} {v_t_newFillsAt : Int32} {v_t_top : Int32} {v_t_firstValue : Int32} {v_t_lastValue : Int32} {v_t_waiting : Int32} {v_t_depth : Int32} {v_t_acts : Int32} {v_t_isWinter : Int32} {v_t_learntNow : Int32} {v_t_forgottenNow : Int32} {v_t_heardMany : Int32} {v_t_its0 : Int32} {v_t_hasImage : Int32} {v_t_imageActs : Int32} {v_t_imageHeard : Int32} {r_t_tape : Nat → Int32} (hret : ∀ (H : Heap) (locs : List Loc) (pc : Nat) (ls : Array Slot), va_P E.1 vwCl (w_X12_goes E a_t a_t_tape a_t_songLong a_t_firstNote a_t_wit a_t_code a_t_refused a_t_newSongLong a_t_newFirstNote a_t_newWit a_t_newRow a_t_readCode a_t_waits a_t_tested a_t_isTold a_t_rows a_t_ahead a_t_told a_t_pile a_t_common a_t_mostOf a_t_likes a_t_heard a_t_soon a_t_soonAll a_t_imageRow a_t_imageAhead a_t_imageHears v_t_thrown v_t_songs v_t_people v_t_forgetsAt v_t_fillsAt v_t_taped v_t_faultKind v_t_faultPlace v_t_long1 o_t_next0 o_t_sort o_t_place o_t_long0 o_t_value o_t_sign o_t_word v_t_newSongs v_t_newPeople v_t_newForgetsAt v_t_newFillsAt v_t_top v_t_firstValue v_t_lastValue v_t_waiting v_t_depth v_t_acts v_t_isWinter v_t_learntNow v_t_forgottenNow v_t_heardMany v_t_its0 v_t_hasImage v_t_imageActs v_t_imageHeard r_t_tape) H → va_S A s.heap H locs → decode cX12_goes pc = .ok (.return_, 1) → W p l e rm_X12_goes s m args below meth c H locs 0 0 Q (F0 m pc ls [])) {K50 : Int32 → Option (Int32 × Int32 × Int32 × Int32 × Int32 × Int32 × Int64)} (hK50 : ∀ (v_t_next0 : Int32), K50 v_t_next0 = some (o_t_next0, o_t_sort, o_t_place, o_t_long0, o_t_value, o_t_sign, o_t_word) → S_X12_goes_50 p l e s m args below meth c Q a_t a_t_tape a_t_songLong a_t_firstNote a_t_wit a_t_code a_t_refused a_t_newSongLong a_t_newFirstNote a_t_newWit a_t_newRow a_t_readCode a_t_waits a_t_tested a_t_isTold a_t_rows a_t_ahead a_t_told a_t_pile a_t_common a_t_mostOf a_t_likes a_t_heard a_t_soon a_t_soonAll a_t_imageRow a_t_imageAhead a_t_imageHears E A v_t_thrown v_t_songs v_t_people v_t_forgetsAt v_t_fillsAt v_t_taped v_t_faultKind v_t_faultPlace v_t_long1 v_t_next0 v_t_sort v_t_place v_t_long0 v_t_value v_t_sign v_t_word v_t_newSongs v_t_newPeople v_t_newForgetsAt v_t_newFillsAt v_t_top v_t_firstValue v_t_lastValue v_t_waiting v_t_depth v_t_acts v_t_isWinter v_t_learntNow v_t_forgottenNow v_t_heardMany v_t_its0 v_t_hasImage v_t_imageActs v_t_imageHeard r_t_tape) {K0 : Int32 → Option (Int32 × Int32 × Int32 × Int32 × Int32 × Int32 × Int64)} (hK0 : ∀ (v_t_next0 : Int32), K0 v_t_next0 = some (o_t_next0, o_t_sort, o_t_place, o_t_long0, o_t_value, o_t_sign, o_t_word) → S_X12_goes_0 p l e s m args below meth c Q a_t a_t_tape a_t_songLong a_t_firstNote a_t_wit a_t_code a_t_refused a_t_newSongLong a_t_newFirstNote a_t_newWit a_t_newRow a_t_readCode a_t_waits a_t_tested a_t_isTold a_t_rows a_t_ahead a_t_told a_t_pile a_t_common a_t_mostOf a_t_likes a_t_heard a_t_soon a_t_soonAll a_t_imageRow a_t_imageAhead a_t_imageHears E A v_t_thrown v_t_songs v_t_people v_t_forgetsAt v_t_fillsAt v_t_taped v_t_faultKind v_t_faultPlace v_t_long1 v_t_next0 v_t_sort v_t_place v_t_long0 v_t_value v_t_sign v_t_word v_t_newSongs v_t_newPeople v_t_newForgetsAt v_t_newFillsAt v_t_top v_t_firstValue v_t_lastValue v_t_waiting v_t_depth v_t_acts v_t_isWinter v_t_learntNow v_t_forgottenNow v_t_heardMany v_t_its0 v_t_hasImage v_t_imageActs v_t_imageHeard r_t_tape) (h : f_X12_goes_0 v_t_long1 r_t_tape K50 K0 v_t_next0 = some (o_t_next0, o_t_sort, o_t_place, o_t_long0, o_t_value, o_t_sign, o_t_word)) : S_X12_goes_0 p l e s m args below meth c Q a_t a_t_tape a_t_songLong a_t_firstNote a_t_wit a_t_code a_t_refused a_t_newSongLong a_t_newFirstNote a_t_newWit a_t_newRow a_t_readCode a_t_waits a_t_tested a_t_isTold a_t_rows a_t_ahead a_t_told a_t_pile a_t_common a_t_mostOf a_t_likes a_t_heard a_t_soon a_t_soonAll a_t_imageRow a_t_imageAhead a_t_imageHears E A v_t_thrown v_t_songs v_t_people v_t_forgetsAt v_t_fillsAt v_t_taped v_t_faultKind v_t_faultPlace v_t_long1 v_t_next0 v_t_sort v_t_place v_t_long0 v_t_value v_t_sign v_t_word v_t_newSongs v_t_newPeople v_t_newForgetsAt v_t_newFillsAt v_t_top v_t_firstValue v_t_lastValue v_t_waiting v_t_depth v_t_acts v_t_isWinter v_t_learntNow v_t_forgottenNow v_t_heardMany v_t_its0 v_t_hasImage v_t_imageActs v_t_imageHeard r_t_tape := by
  obtain ⟨hx, hb, hml, hown, hts, hr, hlk⟩ := id X0
  intro H locs ls hP hD hS hl
  unfold f_X12_goes_0 at h
  refine lv_aload_n hx hb dX12_goes_0 rfl (lv_at hl 0 rfl) ?_
  refine va_get (D := E.1) (ci := 12) (v := .int v_t_next0) (C := RX12) (T := TX12) (N := 61) hx hb hts (fun _ h => (List.mem_cons_of_mem _ (List.mem_append_right _ h))) hown hk.1 hP 0 rfl rfl 15 (by decide) (hts (.fieldLink RX12 115 "GapSongsModel" "next0" "I") (List.mem_cons_of_mem _ (List.mem_append_left _ (List.mem_of_getElem? (i := 0) rfl)))) (fun _ h9 => h9) rfl dX12_goes_1 ?_
  refine lv_aload_n hx hb dX12_goes_4 rfl (lv_at hl 0 rfl) ?_
  refine va_get (D := E.1) (ci := 12) (v := .int v_t_long1) (C := RX12) (T := TX12) (N := 61) hx hb hts (fun _ h => (List.mem_cons_of_mem _ (List.mem_append_right _ h))) hown hk.1 hP 0 rfl rfl 14 (by decide) (hts (.fieldLink RX12 112 "GapSongsModel" "long1" "I") (List.mem_cons_of_mem _ (List.mem_append_left _ (List.mem_of_getElem? (i := 1) rfl)))) (fun _ h9 => h9) rfl dX12_goes_5 ?_
  refine lv_icmp_ge (tgt := 50) hx hb dX12_goes_8 (by decide) (fun c1 => ?_) (fun c1 => ?_)
  · replace h := gs_ift c1 h
    exact hK50 v_t_next0 h _ _ _ hP hD hS (lv_sub hl [0] rfl)
  · replace h := gs_iff c1 h
    refine lv_aload_n hx hb dX12_goes_11 rfl (lv_at hl 0 rfl) ?_
    refine lv_aload_n hx hb dX12_goes_12 rfl (lv_at hl 0 rfl) ?_
    refine va_get (D := E.1) (ci := 12) (v := .int v_t_next0) (C := RX12) (T := TX12) (N := 61) hx hb hts (fun _ h => (List.mem_cons_of_mem _ (List.mem_append_right _ h))) hown hk.1 hP 0 rfl rfl 15 (by decide) (hts (.fieldLink RX12 115 "GapSongsModel" "next0" "I") (List.mem_cons_of_mem _ (List.mem_append_left _ (List.mem_of_getElem? (i := 0) rfl)))) (fun _ h9 => h9) rfl dX12_goes_13 ?_
    obtain ⟨r2, hz2, h⟩ := gs_b1_e h
    refine gs_backRi (va_runV (As := [.int v_t_next0]) (rest := []) ⟨hx, hb, hml, hown, hts⟩ (c_X12_byteAt l E a_t a_t_tape a_t_songLong a_t_firstNote a_t_wit a_t_code a_t_refused a_t_newSongLong a_t_newFirstNote a_t_newWit a_t_newRow a_t_readCode a_t_waits a_t_tested a_t_isTold a_t_rows a_t_ahead a_t_told a_t_pile a_t_common a_t_mostOf a_t_likes a_t_heard a_t_soon a_t_soonAll a_t_imageRow a_t_imageAhead a_t_imageHears v_t_thrown v_t_songs v_t_people v_t_forgetsAt v_t_fillsAt v_t_taped v_t_faultKind v_t_faultPlace v_t_long1 v_t_next0 v_t_sort v_t_place v_t_long0 v_t_value v_t_sign v_t_word v_t_newSongs v_t_newPeople v_t_newForgetsAt v_t_newFillsAt v_t_top v_t_firstValue v_t_lastValue v_t_waiting v_t_depth v_t_acts v_t_isWinter v_t_learntNow v_t_forgottenNow v_t_heardMany v_t_its0 v_t_hasImage v_t_imageActs v_t_imageHeard r_t_tape v_t_next0 r2 hz2) (cwV 1 hts gX12_goes_X12_byteAt rfl rfl rfl (by decide +kernel) ⟨Nat.le_of_ble_eq_true rfl, Nat.le_of_ble_eq_true rfl⟩) (gs_preV (ci := 12) hk hP hD (is := [0, 1]) rfl rfl rfl rfl) rfl rfl hl.1 rfl (lv_room (Nat.le_of_ble_eq_true rfl)) dX12_goes_16 ⟨Nat.zero_le _, Nat.zero_le _⟩) ?_
    refine lv_bipush (v := 32) hx hb dX12_goes_19 (by decide) ?_
    refine lv_icmp_eq (tgt := 37) hx hb dX12_goes_21 (by decide) (fun c3 => ?_) (fun c3 => ?_)
    · replace h := gs_ift c3 h
      refine lv_aload_n hx hb dX12_goes_37 rfl (lv_at hl 0 rfl) ?_
      refine lv_dup hx hb dX12_goes_38 rfl ?_
      refine va_get (D := E.1) (ci := 12) (v := .int v_t_next0) (C := RX12) (T := TX12) (N := 61) hx hb hts (fun _ h => (List.mem_cons_of_mem _ (List.mem_append_right _ h))) hown hk.1 hP 0 rfl rfl 15 (by decide) (hts (.fieldLink RX12 115 "GapSongsModel" "next0" "I") (List.mem_cons_of_mem _ (List.mem_append_left _ (List.mem_of_getElem? (i := 0) rfl)))) (fun _ h9 => h9) rfl dX12_goes_39 ?_
      refine lv_iconst (v := 1) hx hb dX12_goes_42 (by decide) ?_
      refine lv_iadd hx hb dX12_goes_43 ?_
      refine va_put (D := E.1) (ci := 12) (v := .int (v_t_next0 + 1)) (ty := .int) (C := RX12) (T := TX12) (N := 61) hx hb hts (fun _ h => (List.mem_cons_of_mem _ (List.mem_append_right _ h))) tyX12 tyX12_ok nmX12 hown hk.1 hP hD hS 0 rfl rfl 15 (by decide) (hts (.fieldLink RX12 115 "GapSongsModel" "next0" "I") (List.mem_cons_of_mem _ (List.mem_append_left _ (List.mem_of_getElem? (i := 0) rfl)))) (fun _ h9 => h9) rfl (by decide +kernel) rfl rfl (Nat.le_of_ble_eq_true rfl) dX12_goes_44 (fun H locs hP hD hS => ?_)
      have hP : va_P E.1 vwCl (w_X12_goes E a_t a_t_tape a_t_songLong a_t_firstNote a_t_wit a_t_code a_t_refused a_t_newSongLong a_t_newFirstNote a_t_newWit a_t_newRow a_t_readCode a_t_waits a_t_tested a_t_isTold a_t_rows a_t_ahead a_t_told a_t_pile a_t_common a_t_mostOf a_t_likes a_t_heard a_t_soon a_t_soonAll a_t_imageRow a_t_imageAhead a_t_imageHears v_t_thrown v_t_songs v_t_people v_t_forgetsAt v_t_fillsAt v_t_taped v_t_faultKind v_t_faultPlace v_t_long1 (v_t_next0 + 1) v_t_sort v_t_place v_t_long0 v_t_value v_t_sign v_t_word v_t_newSongs v_t_newPeople v_t_newForgetsAt v_t_newFillsAt v_t_top v_t_firstValue v_t_lastValue v_t_waiting v_t_depth v_t_acts v_t_isWinter v_t_learntNow v_t_forgottenNow v_t_heardMany v_t_its0 v_t_hasImage v_t_imageActs v_t_imageHeard r_t_tape) H := hP
      have hD : va_D A (w_X12_goes E a_t a_t_tape a_t_songLong a_t_firstNote a_t_wit a_t_code a_t_refused a_t_newSongLong a_t_newFirstNote a_t_newWit a_t_newRow a_t_readCode a_t_waits a_t_tested a_t_isTold a_t_rows a_t_ahead a_t_told a_t_pile a_t_common a_t_mostOf a_t_likes a_t_heard a_t_soon a_t_soonAll a_t_imageRow a_t_imageAhead a_t_imageHears v_t_thrown v_t_songs v_t_people v_t_forgetsAt v_t_fillsAt v_t_taped v_t_faultKind v_t_faultPlace v_t_long1 (v_t_next0 + 1) v_t_sort v_t_place v_t_long0 v_t_value v_t_sign v_t_word v_t_newSongs v_t_newPeople v_t_newForgetsAt v_t_newFillsAt v_t_top v_t_firstValue v_t_lastValue v_t_waiting v_t_depth v_t_acts v_t_isWinter v_t_learntNow v_t_forgottenNow v_t_heardMany v_t_its0 v_t_hasImage v_t_imageActs v_t_imageHeard r_t_tape) := hD
      refine lv_goto (tgt := 0) hx hb dX12_goes_47 (by decide) ?_
      exact hK0 (v_t_next0 + 1) h _ _ _ hP hD hS (lv_sub hl [0] rfl)
    · replace h := gs_iff c3 h
      refine lv_aload_n hx hb dX12_goes_24 rfl (lv_at hl 0 rfl) ?_
      refine lv_aload_n hx hb dX12_goes_25 rfl (lv_at hl 0 rfl) ?_
      refine va_get (D := E.1) (ci := 12) (v := .int v_t_next0) (C := RX12) (T := TX12) (N := 61) hx hb hts (fun _ h => (List.mem_cons_of_mem _ (List.mem_append_right _ h))) hown hk.1 hP 0 rfl rfl 15 (by decide) (hts (.fieldLink RX12 115 "GapSongsModel" "next0" "I") (List.mem_cons_of_mem _ (List.mem_append_left _ (List.mem_of_getElem? (i := 0) rfl)))) (fun _ h9 => h9) rfl dX12_goes_26 ?_
      obtain ⟨r4, hz4, h⟩ := gs_b1_e h
      refine gs_backRi (va_runV (As := [.int v_t_next0]) (rest := []) ⟨hx, hb, hml, hown, hts⟩ (c_X12_byteAt l E a_t a_t_tape a_t_songLong a_t_firstNote a_t_wit a_t_code a_t_refused a_t_newSongLong a_t_newFirstNote a_t_newWit a_t_newRow a_t_readCode a_t_waits a_t_tested a_t_isTold a_t_rows a_t_ahead a_t_told a_t_pile a_t_common a_t_mostOf a_t_likes a_t_heard a_t_soon a_t_soonAll a_t_imageRow a_t_imageAhead a_t_imageHears v_t_thrown v_t_songs v_t_people v_t_forgetsAt v_t_fillsAt v_t_taped v_t_faultKind v_t_faultPlace v_t_long1 v_t_next0 v_t_sort v_t_place v_t_long0 v_t_value v_t_sign v_t_word v_t_newSongs v_t_newPeople v_t_newForgetsAt v_t_newFillsAt v_t_top v_t_firstValue v_t_lastValue v_t_waiting v_t_depth v_t_acts v_t_isWinter v_t_learntNow v_t_forgottenNow v_t_heardMany v_t_its0 v_t_hasImage v_t_imageActs v_t_imageHeard r_t_tape v_t_next0 r4 hz4) (cwV 1 hts gX12_goes_X12_byteAt rfl rfl rfl (by decide +kernel) ⟨Nat.le_of_ble_eq_true rfl, Nat.le_of_ble_eq_true rfl⟩) (gs_preV (ci := 12) hk hP hD (is := [0, 1]) rfl rfl rfl rfl) rfl rfl hl.1 rfl (lv_room (Nat.le_of_ble_eq_true rfl)) dX12_goes_29 ⟨Nat.zero_le _, Nat.zero_le _⟩) ?_
      refine lv_bipush (v := 10) hx hb dX12_goes_32 (by decide) ?_
      refine lv_icmp_ne (tgt := 50) hx hb dX12_goes_34 (by decide) (fun c5 => ?_) (fun c5 => ?_)
      · replace h := gs_iff c5 h
        exact hK50 v_t_next0 h _ _ _ hP hD hS (lv_sub hl [0] rfl)
      · replace h := gs_ift c5 h
        refine lv_aload_n hx hb dX12_goes_37 rfl (lv_at hl 0 rfl) ?_
        refine lv_dup hx hb dX12_goes_38 rfl ?_
        refine va_get (D := E.1) (ci := 12) (v := .int v_t_next0) (C := RX12) (T := TX12) (N := 61) hx hb hts (fun _ h => (List.mem_cons_of_mem _ (List.mem_append_right _ h))) hown hk.1 hP 0 rfl rfl 15 (by decide) (hts (.fieldLink RX12 115 "GapSongsModel" "next0" "I") (List.mem_cons_of_mem _ (List.mem_append_left _ (List.mem_of_getElem? (i := 0) rfl)))) (fun _ h9 => h9) rfl dX12_goes_39 ?_
        refine lv_iconst (v := 1) hx hb dX12_goes_42 (by decide) ?_
        refine lv_iadd hx hb dX12_goes_43 ?_
        refine va_put (D := E.1) (ci := 12) (v := .int (v_t_next0 + 1)) (ty := .int) (C := RX12) (T := TX12) (N := 61) hx hb hts (fun _ h => (List.mem_cons_of_mem _ (List.mem_append_right _ h))) tyX12 tyX12_ok nmX12 hown hk.1 hP hD hS 0 rfl rfl 15 (by decide) (hts (.fieldLink RX12 115 "GapSongsModel" "next0" "I") (List.mem_cons_of_mem _ (List.mem_append_left _ (List.mem_of_getElem? (i := 0) rfl)))) (fun _ h9 => h9) rfl (by decide +kernel) rfl rfl (Nat.le_of_ble_eq_true rfl) dX12_goes_44 (fun H locs hP hD hS => ?_)
        have hP : va_P E.1 vwCl (w_X12_goes E a_t a_t_tape a_t_songLong a_t_firstNote a_t_wit a_t_code a_t_refused a_t_newSongLong a_t_newFirstNote a_t_newWit a_t_newRow a_t_readCode a_t_waits a_t_tested a_t_isTold a_t_rows a_t_ahead a_t_told a_t_pile a_t_common a_t_mostOf a_t_likes a_t_heard a_t_soon a_t_soonAll a_t_imageRow a_t_imageAhead a_t_imageHears v_t_thrown v_t_songs v_t_people v_t_forgetsAt v_t_fillsAt v_t_taped v_t_faultKind v_t_faultPlace v_t_long1 (v_t_next0 + 1) v_t_sort v_t_place v_t_long0 v_t_value v_t_sign v_t_word v_t_newSongs v_t_newPeople v_t_newForgetsAt v_t_newFillsAt v_t_top v_t_firstValue v_t_lastValue v_t_waiting v_t_depth v_t_acts v_t_isWinter v_t_learntNow v_t_forgottenNow v_t_heardMany v_t_its0 v_t_hasImage v_t_imageActs v_t_imageHeard r_t_tape) H := hP
        have hD : va_D A (w_X12_goes E a_t a_t_tape a_t_songLong a_t_firstNote a_t_wit a_t_code a_t_refused a_t_newSongLong a_t_newFirstNote a_t_newWit a_t_newRow a_t_readCode a_t_waits a_t_tested a_t_isTold a_t_rows a_t_ahead a_t_told a_t_pile a_t_common a_t_mostOf a_t_likes a_t_heard a_t_soon a_t_soonAll a_t_imageRow a_t_imageAhead a_t_imageHears v_t_thrown v_t_songs v_t_people v_t_forgetsAt v_t_fillsAt v_t_taped v_t_faultKind v_t_faultPlace v_t_long1 (v_t_next0 + 1) v_t_sort v_t_place v_t_long0 v_t_value v_t_sign v_t_word v_t_newSongs v_t_newPeople v_t_newForgetsAt v_t_newFillsAt v_t_top v_t_firstValue v_t_lastValue v_t_waiting v_t_depth v_t_acts v_t_isWinter v_t_learntNow v_t_forgottenNow v_t_heardMany v_t_its0 v_t_hasImage v_t_imageActs v_t_imageHeard r_t_tape) := hD
        refine lv_goto (tgt := 0) hx hb dX12_goes_47 (by decide) ?_
        exact hK0 (v_t_next0 + 1) h _ _ _ hP hD hS (lv_sub hl [0] rfl)
set_option maxHeartbeats 4000000 in
set_option maxRecDepth 100000 in
theorem t_X12_goes_0_n {p : Program} {l : Launch} {e : Env} {s : State} {m : MethodId} {args : Array Value} {below : List Frame} {meth : Method} {c : Code} {Q : State → Prop} {E : gs_E} {A : Nat → Prop} {a_t a_t_tape a_t_songLong a_t_firstNote a_t_wit a_t_code a_t_refused a_t_newSongLong a_t_newFirstNote a_t_newWit a_t_newRow a_t_readCode a_t_waits a_t_tested a_t_isTold a_t_rows a_t_ahead a_t_told a_t_pile a_t_common a_t_mostOf a_t_likes a_t_heard a_t_soon a_t_soonAll a_t_imageRow a_t_imageAhead a_t_imageHears : Nat} {o_t_next0 : Int32} {o_t_sort : Int32} {o_t_place : Int32} {o_t_long0 : Int32} {o_t_value : Int32} {o_t_sign : Int32} {o_t_word : Int64} (X0 : gs_X wsX12_goes cX12_goes RX12 2 none p s m args meth c) (hk : gs_K E s) {v_t_thrown : Int32} {v_t_songs : Int32} {v_t_people : Int32} {v_t_forgetsAt : Int32} {v_t_fillsAt : Int32} {v_t_taped : Int32} {v_t_faultKind : Int32} {v_t_faultPlace : Int32} {v_t_long1 : Int32} {v_t_sort : Int32} {v_t_place : Int32} {v_t_long0 : Int32} {v_t_value : Int32} {v_t_sign : Int32} {v_t_word : Int64} {v_t_newSongs : Int32} {v_t_newPeople : Int32} {v_t_newForgetsAt : Int32} {v_t_newFillsAt : Int32} {v_t_top : Int32} {v_t_firstValue : Int32} {v_t_lastValue : Int32} {v_t_waiting : Int32} {v_t_depth : Int32} {v_t_acts : Int32} {v_t_isWinter : Int32} {v_t_learntNow : Int32} {v_t_forgottenNow : Int32} {v_t_heardMany : Int32} {v_t_its0 : Int32} {v_t_hasImage : Int32} {v_t_imageActs : Int32} {v_t_imageHeard : Int32} {r_t_tape : Nat → Int32} (hret : ∀ (H : Heap) (locs : List Loc) (pc : Nat) (ls : Array Slot), va_P E.1 vwCl (w_X12_goes E a_t a_t_tape a_t_songLong a_t_firstNote a_t_wit a_t_code a_t_refused a_t_newSongLong a_t_newFirstNote a_t_newWit a_t_newRow a_t_readCode a_t_waits a_t_tested a_t_isTold a_t_rows a_t_ahead a_t_told a_t_pile a_t_common a_t_mostOf a_t_likes a_t_heard a_t_soon a_t_soonAll a_t_imageRow a_t_imageAhead a_t_imageHears v_t_thrown v_t_songs v_t_people v_t_forgetsAt v_t_fillsAt v_t_taped v_t_faultKind v_t_faultPlace v_t_long1 o_t_next0 o_t_sort o_t_place o_t_long0 o_t_value o_t_sign o_t_word v_t_newSongs v_t_newPeople v_t_newForgetsAt v_t_newFillsAt v_t_top v_t_firstValue v_t_lastValue v_t_waiting v_t_depth v_t_acts v_t_isWinter v_t_learntNow v_t_forgottenNow v_t_heardMany v_t_its0 v_t_hasImage v_t_imageActs v_t_imageHeard r_t_tape) H → va_S A s.heap H locs → decode cX12_goes pc = .ok (.return_, 1) → W p l e rm_X12_goes s m args below meth c H locs 0 0 Q (F0 m pc ls [])) {K50 : Int32 → Option (Int32 × Int32 × Int32 × Int32 × Int32 × Int32 × Int64)} (hK50 : ∀ (v_t_next0 : Int32), K50 v_t_next0 = some (o_t_next0, o_t_sort, o_t_place, o_t_long0, o_t_value, o_t_sign, o_t_word) → S_X12_goes_50 p l e s m args below meth c Q a_t a_t_tape a_t_songLong a_t_firstNote a_t_wit a_t_code a_t_refused a_t_newSongLong a_t_newFirstNote a_t_newWit a_t_newRow a_t_readCode a_t_waits a_t_tested a_t_isTold a_t_rows a_t_ahead a_t_told a_t_pile a_t_common a_t_mostOf a_t_likes a_t_heard a_t_soon a_t_soonAll a_t_imageRow a_t_imageAhead a_t_imageHears E A v_t_thrown v_t_songs v_t_people v_t_forgetsAt v_t_fillsAt v_t_taped v_t_faultKind v_t_faultPlace v_t_long1 v_t_next0 v_t_sort v_t_place v_t_long0 v_t_value v_t_sign v_t_word v_t_newSongs v_t_newPeople v_t_newForgetsAt v_t_newFillsAt v_t_top v_t_firstValue v_t_lastValue v_t_waiting v_t_depth v_t_acts v_t_isWinter v_t_learntNow v_t_forgottenNow v_t_heardMany v_t_its0 v_t_hasImage v_t_imageActs v_t_imageHeard r_t_tape) : ∀ (n : Nat) (v_t_next0 : Int32), gs_it (fun _ => none) (f_X12_goes_0 v_t_long1 r_t_tape K50) n v_t_next0 = some (o_t_next0, o_t_sort, o_t_place, o_t_long0, o_t_value, o_t_sign, o_t_word) → S_X12_goes_0 p l e s m args below meth c Q a_t a_t_tape a_t_songLong a_t_firstNote a_t_wit a_t_code a_t_refused a_t_newSongLong a_t_newFirstNote a_t_newWit a_t_newRow a_t_readCode a_t_waits a_t_tested a_t_isTold a_t_rows a_t_ahead a_t_told a_t_pile a_t_common a_t_mostOf a_t_likes a_t_heard a_t_soon a_t_soonAll a_t_imageRow a_t_imageAhead a_t_imageHears E A v_t_thrown v_t_songs v_t_people v_t_forgetsAt v_t_fillsAt v_t_taped v_t_faultKind v_t_faultPlace v_t_long1 v_t_next0 v_t_sort v_t_place v_t_long0 v_t_value v_t_sign v_t_word v_t_newSongs v_t_newPeople v_t_newForgetsAt v_t_newFillsAt v_t_top v_t_firstValue v_t_lastValue v_t_waiting v_t_depth v_t_acts v_t_isWinter v_t_learntNow v_t_forgottenNow v_t_heardMany v_t_its0 v_t_hasImage v_t_imageActs v_t_imageHeard r_t_tape := by
  intro n
  induction n with
  | zero =>
    intro v_t_next0 h
    have h : (none : Option (Int32 × Int32 × Int32 × Int32 × Int32 × Int32 × Int64)) = some (o_t_next0, o_t_sort, o_t_place, o_t_long0, o_t_value, o_t_sign, o_t_word) := h
    cases h
  | succ n ih =>
    intro v_t_next0 h
    exact t_X12_goes_0_b X0 hk  hret (hK50 := hK50) (K0 := gs_it (fun _ => none) (f_X12_goes_0 v_t_long1 r_t_tape K50) n) (hK0 := ih) (h := h)
theorem t_X12_goes_0 {p : Program} {l : Launch} {e : Env} {s : State} {m : MethodId} {args : Array Value} {below : List Frame} {meth : Method} {c : Code} {Q : State → Prop} {E : gs_E} {A : Nat → Prop} {a_t a_t_tape a_t_songLong a_t_firstNote a_t_wit a_t_code a_t_refused a_t_newSongLong a_t_newFirstNote a_t_newWit a_t_newRow a_t_readCode a_t_waits a_t_tested a_t_isTold a_t_rows a_t_ahead a_t_told a_t_pile a_t_common a_t_mostOf a_t_likes a_t_heard a_t_soon a_t_soonAll a_t_imageRow a_t_imageAhead a_t_imageHears : Nat} {o_t_next0 : Int32} {o_t_sort : Int32} {o_t_place : Int32} {o_t_long0 : Int32} {o_t_value : Int32} {o_t_sign : Int32} {o_t_word : Int64} (X0 : gs_X wsX12_goes cX12_goes RX12 2 none p s m args meth c) (hk : gs_K E s) {v_t_thrown : Int32} {v_t_songs : Int32} {v_t_people : Int32} {v_t_forgetsAt : Int32} {v_t_fillsAt : Int32} {v_t_taped : Int32} {v_t_faultKind : Int32} {v_t_faultPlace : Int32} {v_t_long1 : Int32} {v_t_next0 : Int32} {v_t_sort : Int32} {v_t_place : Int32} {v_t_long0 : Int32} {v_t_value : Int32} {v_t_sign : Int32} {v_t_word : Int64} {v_t_newSongs : Int32} {v_t_newPeople : Int32} {v_t_newForgetsAt : Int32} {v_t_newFillsAt : Int32} {v_t_top : Int32} {v_t_firstValue : Int32} {v_t_lastValue : Int32} {v_t_waiting : Int32} {v_t_depth : Int32} {v_t_acts : Int32} {v_t_isWinter : Int32} {v_t_learntNow : Int32} {v_t_forgottenNow : Int32} {v_t_heardMany : Int32} {v_t_its0 : Int32} {v_t_hasImage : Int32} {v_t_imageActs : Int32} {v_t_imageHeard : Int32} {r_t_tape : Nat → Int32} (hret : ∀ (H : Heap) (locs : List Loc) (pc : Nat) (ls : Array Slot), va_P E.1 vwCl (w_X12_goes E a_t a_t_tape a_t_songLong a_t_firstNote a_t_wit a_t_code a_t_refused a_t_newSongLong a_t_newFirstNote a_t_newWit a_t_newRow a_t_readCode a_t_waits a_t_tested a_t_isTold a_t_rows a_t_ahead a_t_told a_t_pile a_t_common a_t_mostOf a_t_likes a_t_heard a_t_soon a_t_soonAll a_t_imageRow a_t_imageAhead a_t_imageHears v_t_thrown v_t_songs v_t_people v_t_forgetsAt v_t_fillsAt v_t_taped v_t_faultKind v_t_faultPlace v_t_long1 o_t_next0 o_t_sort o_t_place o_t_long0 o_t_value o_t_sign o_t_word v_t_newSongs v_t_newPeople v_t_newForgetsAt v_t_newFillsAt v_t_top v_t_firstValue v_t_lastValue v_t_waiting v_t_depth v_t_acts v_t_isWinter v_t_learntNow v_t_forgottenNow v_t_heardMany v_t_its0 v_t_hasImage v_t_imageActs v_t_imageHeard r_t_tape) H → va_S A s.heap H locs → decode cX12_goes pc = .ok (.return_, 1) → W p l e rm_X12_goes s m args below meth c H locs 0 0 Q (F0 m pc ls [])) {K50 : Int32 → Option (Int32 × Int32 × Int32 × Int32 × Int32 × Int32 × Int64)} (hK50 : ∀ (v_t_next0 : Int32), K50 v_t_next0 = some (o_t_next0, o_t_sort, o_t_place, o_t_long0, o_t_value, o_t_sign, o_t_word) → S_X12_goes_50 p l e s m args below meth c Q a_t a_t_tape a_t_songLong a_t_firstNote a_t_wit a_t_code a_t_refused a_t_newSongLong a_t_newFirstNote a_t_newWit a_t_newRow a_t_readCode a_t_waits a_t_tested a_t_isTold a_t_rows a_t_ahead a_t_told a_t_pile a_t_common a_t_mostOf a_t_likes a_t_heard a_t_soon a_t_soonAll a_t_imageRow a_t_imageAhead a_t_imageHears E A v_t_thrown v_t_songs v_t_people v_t_forgetsAt v_t_fillsAt v_t_taped v_t_faultKind v_t_faultPlace v_t_long1 v_t_next0 v_t_sort v_t_place v_t_long0 v_t_value v_t_sign v_t_word v_t_newSongs v_t_newPeople v_t_newForgetsAt v_t_newFillsAt v_t_top v_t_firstValue v_t_lastValue v_t_waiting v_t_depth v_t_acts v_t_isWinter v_t_learntNow v_t_forgottenNow v_t_heardMany v_t_its0 v_t_hasImage v_t_imageActs v_t_imageHeard r_t_tape) (h : gs_it (fun _ => none) (f_X12_goes_0 v_t_long1 r_t_tape K50) gs_fuel v_t_next0 = some (o_t_next0, o_t_sort, o_t_place, o_t_long0, o_t_value, o_t_sign, o_t_word)) : S_X12_goes_0 p l e s m args below meth c Q a_t a_t_tape a_t_songLong a_t_firstNote a_t_wit a_t_code a_t_refused a_t_newSongLong a_t_newFirstNote a_t_newWit a_t_newRow a_t_readCode a_t_waits a_t_tested a_t_isTold a_t_rows a_t_ahead a_t_told a_t_pile a_t_common a_t_mostOf a_t_likes a_t_heard a_t_soon a_t_soonAll a_t_imageRow a_t_imageAhead a_t_imageHears E A v_t_thrown v_t_songs v_t_people v_t_forgetsAt v_t_fillsAt v_t_taped v_t_faultKind v_t_faultPlace v_t_long1 v_t_next0 v_t_sort v_t_place v_t_long0 v_t_value v_t_sign v_t_word v_t_newSongs v_t_newPeople v_t_newForgetsAt v_t_newFillsAt v_t_top v_t_firstValue v_t_lastValue v_t_waiting v_t_depth v_t_acts v_t_isWinter v_t_learntNow v_t_forgottenNow v_t_heardMany v_t_its0 v_t_hasImage v_t_imageActs v_t_imageHeard r_t_tape :=
  t_X12_goes_0_n X0 hk  hret (hK50 := hK50) gs_fuel v_t_next0 h
def f_X12_goes_323 (v_t_next0 : Int32) (v_t_place : Int32) (v_t_value : Int32) (v_t_sign : Int32) (v_t_word : Int64) : Option (Int32 × Int32 × Int32 × Int32 × Int32 × Int32 × Int64) :=
  some (v_t_next0, 3, v_t_place, v_t_next0 - v_t_place, v_t_value, v_t_sign, v_t_word)
set_option maxHeartbeats 4000000 in
set_option maxRecDepth 100000 in
theorem t_X12_goes_323 {p : Program} {l : Launch} {e : Env} {s : State} {m : MethodId} {args : Array Value} {below : List Frame} {meth : Method} {c : Code} {Q : State → Prop} {E : gs_E} {A : Nat → Prop} {a_t a_t_tape a_t_songLong a_t_firstNote a_t_wit a_t_code a_t_refused a_t_newSongLong a_t_newFirstNote a_t_newWit a_t_newRow a_t_readCode a_t_waits a_t_tested a_t_isTold a_t_rows a_t_ahead a_t_told a_t_pile a_t_common a_t_mostOf a_t_likes a_t_heard a_t_soon a_t_soonAll a_t_imageRow a_t_imageAhead a_t_imageHears : Nat} {o_t_next0 : Int32} {o_t_sort : Int32} {o_t_place : Int32} {o_t_long0 : Int32} {o_t_value : Int32} {o_t_sign : Int32} {o_t_word : Int64} (X0 : gs_X wsX12_goes cX12_goes RX12 2 none p s m args meth c) (hk : gs_K E s) {v_t_thrown : Int32} {v_t_songs : Int32} {v_t_people : Int32} {v_t_forgetsAt : Int32} {v_t_fillsAt : Int32} {v_t_taped : Int32} {v_t_faultKind : Int32} {v_t_faultPlace : Int32} {v_t_long1 : Int32} {v_t_next0 : Int32} {v_t_sort : Int32} {v_t_place : Int32} {v_t_long0 : Int32} {v_t_value : Int32} {v_t_sign : Int32} {v_t_word : Int64} {v_t_newSongs : Int32} {v_t_newPeople : Int32} {v_t_newForgetsAt : Int32} {v_t_newFillsAt : Int32} {v_t_top : Int32} {v_t_firstValue : Int32} {v_t_lastValue : Int32} {v_t_waiting : Int32} {v_t_depth : Int32} {v_t_acts : Int32} {v_t_isWinter : Int32} {v_t_learntNow : Int32} {v_t_forgottenNow : Int32} {v_t_heardMany : Int32} {v_t_its0 : Int32} {v_t_hasImage : Int32} {v_t_imageActs : Int32} {v_t_imageHeard : Int32} {r_t_tape : Nat → Int32} (hret : ∀ (H : Heap) (locs : List Loc) (pc : Nat) (ls : Array Slot), va_P E.1 vwCl (w_X12_goes E a_t a_t_tape a_t_songLong a_t_firstNote a_t_wit a_t_code a_t_refused a_t_newSongLong a_t_newFirstNote a_t_newWit a_t_newRow a_t_readCode a_t_waits a_t_tested a_t_isTold a_t_rows a_t_ahead a_t_told a_t_pile a_t_common a_t_mostOf a_t_likes a_t_heard a_t_soon a_t_soonAll a_t_imageRow a_t_imageAhead a_t_imageHears v_t_thrown v_t_songs v_t_people v_t_forgetsAt v_t_fillsAt v_t_taped v_t_faultKind v_t_faultPlace v_t_long1 o_t_next0 o_t_sort o_t_place o_t_long0 o_t_value o_t_sign o_t_word v_t_newSongs v_t_newPeople v_t_newForgetsAt v_t_newFillsAt v_t_top v_t_firstValue v_t_lastValue v_t_waiting v_t_depth v_t_acts v_t_isWinter v_t_learntNow v_t_forgottenNow v_t_heardMany v_t_its0 v_t_hasImage v_t_imageActs v_t_imageHeard r_t_tape) H → va_S A s.heap H locs → decode cX12_goes pc = .ok (.return_, 1) → W p l e rm_X12_goes s m args below meth c H locs 0 0 Q (F0 m pc ls [])) (h : f_X12_goes_323 v_t_next0 v_t_place v_t_value v_t_sign v_t_word = some (o_t_next0, o_t_sort, o_t_place, o_t_long0, o_t_value, o_t_sign, o_t_word)) : S_X12_goes_323 p l e s m args below meth c Q a_t a_t_tape a_t_songLong a_t_firstNote a_t_wit a_t_code a_t_refused a_t_newSongLong a_t_newFirstNote a_t_newWit a_t_newRow a_t_readCode a_t_waits a_t_tested a_t_isTold a_t_rows a_t_ahead a_t_told a_t_pile a_t_common a_t_mostOf a_t_likes a_t_heard a_t_soon a_t_soonAll a_t_imageRow a_t_imageAhead a_t_imageHears E A v_t_thrown v_t_songs v_t_people v_t_forgetsAt v_t_fillsAt v_t_taped v_t_faultKind v_t_faultPlace v_t_long1 v_t_next0 v_t_sort v_t_place v_t_long0 v_t_value v_t_sign v_t_word v_t_newSongs v_t_newPeople v_t_newForgetsAt v_t_newFillsAt v_t_top v_t_firstValue v_t_lastValue v_t_waiting v_t_depth v_t_acts v_t_isWinter v_t_learntNow v_t_forgottenNow v_t_heardMany v_t_its0 v_t_hasImage v_t_imageActs v_t_imageHeard r_t_tape := by
  obtain ⟨hx, hb, hml, hown, hts, hr, hlk⟩ := id X0
  intro H locs ls hP hD hS hl
  unfold f_X12_goes_323 at h
  refine lv_iconst (v := 3) hx hb dX12_goes_323 (by decide) ?_
  refine lv_goto (tgt := 328) hx hb dX12_goes_324 (by decide) ?_
  refine va_put (D := E.1) (ci := 12) (v := .int 3) (ty := .int) (C := RX12) (T := TX12) (N := 61) hx hb hts (fun _ h => (List.mem_cons_of_mem _ (List.mem_append_right _ h))) tyX12 tyX12_ok nmX12 hown hk.1 hP hD hS 0 rfl rfl 16 (by decide) (hts (.fieldLink RX12 135 "GapSongsModel" "sort" "I") (List.mem_cons_of_mem _ (List.mem_append_left _ (List.mem_of_getElem? (i := 6) rfl)))) (fun _ h9 => h9) rfl (by decide +kernel) rfl rfl (Nat.le_of_ble_eq_true rfl) dX12_goes_328 (fun H locs hP hD hS => ?_)
  have hP : va_P E.1 vwCl (w_X12_goes E a_t a_t_tape a_t_songLong a_t_firstNote a_t_wit a_t_code a_t_refused a_t_newSongLong a_t_newFirstNote a_t_newWit a_t_newRow a_t_readCode a_t_waits a_t_tested a_t_isTold a_t_rows a_t_ahead a_t_told a_t_pile a_t_common a_t_mostOf a_t_likes a_t_heard a_t_soon a_t_soonAll a_t_imageRow a_t_imageAhead a_t_imageHears v_t_thrown v_t_songs v_t_people v_t_forgetsAt v_t_fillsAt v_t_taped v_t_faultKind v_t_faultPlace v_t_long1 v_t_next0 3 v_t_place v_t_long0 v_t_value v_t_sign v_t_word v_t_newSongs v_t_newPeople v_t_newForgetsAt v_t_newFillsAt v_t_top v_t_firstValue v_t_lastValue v_t_waiting v_t_depth v_t_acts v_t_isWinter v_t_learntNow v_t_forgottenNow v_t_heardMany v_t_its0 v_t_hasImage v_t_imageActs v_t_imageHeard r_t_tape) H := hP
  have hD : va_D A (w_X12_goes E a_t a_t_tape a_t_songLong a_t_firstNote a_t_wit a_t_code a_t_refused a_t_newSongLong a_t_newFirstNote a_t_newWit a_t_newRow a_t_readCode a_t_waits a_t_tested a_t_isTold a_t_rows a_t_ahead a_t_told a_t_pile a_t_common a_t_mostOf a_t_likes a_t_heard a_t_soon a_t_soonAll a_t_imageRow a_t_imageAhead a_t_imageHears v_t_thrown v_t_songs v_t_people v_t_forgetsAt v_t_fillsAt v_t_taped v_t_faultKind v_t_faultPlace v_t_long1 v_t_next0 3 v_t_place v_t_long0 v_t_value v_t_sign v_t_word v_t_newSongs v_t_newPeople v_t_newForgetsAt v_t_newFillsAt v_t_top v_t_firstValue v_t_lastValue v_t_waiting v_t_depth v_t_acts v_t_isWinter v_t_learntNow v_t_forgottenNow v_t_heardMany v_t_its0 v_t_hasImage v_t_imageActs v_t_imageHeard r_t_tape) := hD
  refine lv_aload_n hx hb dX12_goes_331 rfl (lv_at hl 0 rfl) ?_
  refine lv_aload_n hx hb dX12_goes_332 rfl (lv_at hl 0 rfl) ?_
  refine va_get (D := E.1) (ci := 12) (v := .int v_t_next0) (C := RX12) (T := TX12) (N := 61) hx hb hts (fun _ h => (List.mem_cons_of_mem _ (List.mem_append_right _ h))) hown hk.1 hP 0 rfl rfl 15 (by decide) (hts (.fieldLink RX12 115 "GapSongsModel" "next0" "I") (List.mem_cons_of_mem _ (List.mem_append_left _ (List.mem_of_getElem? (i := 0) rfl)))) (fun _ h9 => h9) rfl dX12_goes_333 ?_
  refine lv_aload_n hx hb dX12_goes_336 rfl (lv_at hl 0 rfl) ?_
  refine va_get (D := E.1) (ci := 12) (v := .int v_t_place) (C := RX12) (T := TX12) (N := 61) hx hb hts (fun _ h => (List.mem_cons_of_mem _ (List.mem_append_right _ h))) hown hk.1 hP 0 rfl rfl 17 (by decide) (hts (.fieldLink RX12 122 "GapSongsModel" "place" "I") (List.mem_cons_of_mem _ (List.mem_append_left _ (List.mem_of_getElem? (i := 2) rfl)))) (fun _ h9 => h9) rfl dX12_goes_337 ?_
  refine lv_isub hx hb dX12_goes_340 ?_
  refine va_put (D := E.1) (ci := 12) (v := .int (v_t_next0 - v_t_place)) (ty := .int) (C := RX12) (T := TX12) (N := 61) hx hb hts (fun _ h => (List.mem_cons_of_mem _ (List.mem_append_right _ h))) tyX12 tyX12_ok nmX12 hown hk.1 hP hD hS 0 rfl rfl 18 (by decide) (hts (.fieldLink RX12 145 "GapSongsModel" "long0" "I") (List.mem_cons_of_mem _ (List.mem_append_left _ (List.mem_of_getElem? (i := 7) rfl)))) (fun _ h9 => h9) rfl (by decide +kernel) rfl rfl (Nat.le_of_ble_eq_true rfl) dX12_goes_341 (fun H locs hP hD hS => ?_)
  have hP : va_P E.1 vwCl (w_X12_goes E a_t a_t_tape a_t_songLong a_t_firstNote a_t_wit a_t_code a_t_refused a_t_newSongLong a_t_newFirstNote a_t_newWit a_t_newRow a_t_readCode a_t_waits a_t_tested a_t_isTold a_t_rows a_t_ahead a_t_told a_t_pile a_t_common a_t_mostOf a_t_likes a_t_heard a_t_soon a_t_soonAll a_t_imageRow a_t_imageAhead a_t_imageHears v_t_thrown v_t_songs v_t_people v_t_forgetsAt v_t_fillsAt v_t_taped v_t_faultKind v_t_faultPlace v_t_long1 v_t_next0 3 v_t_place (v_t_next0 - v_t_place) v_t_value v_t_sign v_t_word v_t_newSongs v_t_newPeople v_t_newForgetsAt v_t_newFillsAt v_t_top v_t_firstValue v_t_lastValue v_t_waiting v_t_depth v_t_acts v_t_isWinter v_t_learntNow v_t_forgottenNow v_t_heardMany v_t_its0 v_t_hasImage v_t_imageActs v_t_imageHeard r_t_tape) H := hP
  have hD : va_D A (w_X12_goes E a_t a_t_tape a_t_songLong a_t_firstNote a_t_wit a_t_code a_t_refused a_t_newSongLong a_t_newFirstNote a_t_newWit a_t_newRow a_t_readCode a_t_waits a_t_tested a_t_isTold a_t_rows a_t_ahead a_t_told a_t_pile a_t_common a_t_mostOf a_t_likes a_t_heard a_t_soon a_t_soonAll a_t_imageRow a_t_imageAhead a_t_imageHears v_t_thrown v_t_songs v_t_people v_t_forgetsAt v_t_fillsAt v_t_taped v_t_faultKind v_t_faultPlace v_t_long1 v_t_next0 3 v_t_place (v_t_next0 - v_t_place) v_t_value v_t_sign v_t_word v_t_newSongs v_t_newPeople v_t_newForgetsAt v_t_newFillsAt v_t_top v_t_firstValue v_t_lastValue v_t_waiting v_t_depth v_t_acts v_t_isWinter v_t_learntNow v_t_forgottenNow v_t_heardMany v_t_its0 v_t_hasImage v_t_imageActs v_t_imageHeard r_t_tape) := hD
  have h := Option.some.inj h
  obtain ⟨w0, h⟩ := Prod.mk.inj h
  obtain ⟨w1, h⟩ := Prod.mk.inj h
  obtain ⟨w2, h⟩ := Prod.mk.inj h
  obtain ⟨w3, h⟩ := Prod.mk.inj h
  obtain ⟨w4, h⟩ := Prod.mk.inj h
  obtain ⟨w5, h⟩ := Prod.mk.inj h
  subst h
  subst w0
  subst w1
  subst w2
  subst w3
  subst w4
  subst w5
  exact hret _ _ _ _ hP hS dX12_goes_344
def f_X12_goes_187 (v_t_long1 : Int32) (v_t_place : Int32) (v_t_sign : Int32) (v_t_word : Int64) (r_t_tape : Nat → Int32) (K250 : Int32 → Int32 → Option (Int32 × Int32 × Int32 × Int32 × Int32 × Int32 × Int64)) (K187 : Int32 → Int32 → Option (Int32 × Int32 × Int32 × Int32 × Int32 × Int32 × Int64)) (v_t_next0 : Int32) (v_t_value : Int32) : Option (Int32 × Int32 × Int32 × Int32 × Int32 × Int32 × Int64) :=
  gs_b1 (f_X12_byteAt v_t_next0 v_t_long1 r_t_tape) fun r21 =>
  gs_b1 (f_X12_isDigit r21) fun r22 =>
  if r22 = 0 then
    K250 v_t_next0 v_t_value
  else
    if 4 ≤ (v_t_next0 - v_t_place) then
      K187 (v_t_next0 + 1) v_t_value
    else
      gs_b1 (f_X12_byteAt v_t_next0 v_t_long1 r_t_tape) fun r25 =>
      K187 (v_t_next0 + 1) (((10 * v_t_value) + r25) - 48)
set_option maxHeartbeats 4000000 in
set_option maxRecDepth 100000 in
theorem t_X12_goes_187_b {p : Program} {l : Launch} {e : Env} {s : State} {m : MethodId} {args : Array Value} {below : List Frame} {meth : Method} {c : Code} {Q : State → Prop} {E : gs_E} {A : Nat → Prop} {a_t a_t_tape a_t_songLong a_t_firstNote a_t_wit a_t_code a_t_refused a_t_newSongLong a_t_newFirstNote a_t_newWit a_t_newRow a_t_readCode a_t_waits a_t_tested a_t_isTold a_t_rows a_t_ahead a_t_told a_t_pile a_t_common a_t_mostOf a_t_likes a_t_heard a_t_soon a_t_soonAll a_t_imageRow a_t_imageAhead a_t_imageHears : Nat} {o_t_next0 : Int32} {o_t_sort : Int32} {o_t_place : Int32} {o_t_long0 : Int32} {o_t_value : Int32} {o_t_sign : Int32} {o_t_word : Int64} (X0 : gs_X wsX12_goes cX12_goes RX12 2 none p s m args meth c) (hk : gs_K E s) {v_t_thrown : Int32} {v_t_songs : Int32} {v_t_people : Int32} {v_t_forgetsAt : Int32} {v_t_fillsAt : Int32} {v_t_taped : Int32} {v_t_faultKind : Int32} {v_t_faultPlace : Int32} {v_t_long1 : Int32} {v_t_next0 : Int32} {v_t_sort : Int32} {v_t_place : Int32} {v_t_long0 : Int32} {v_t_value : Int32} {v_t_sign : Int32} {v_t_word : Int64} {v_t_newSongs : Int32} {v_t_newPeople : Int32} {v_t_newForgetsAt : Int32} {v_t_newFillsAt : Int32} {v_t_top : Int32} {v_t_firstValue : Int32} {v_t_lastValue : Int32} {v_t_waiting : Int32} {v_t_depth : Int32} {v_t_acts : Int32} {v_t_isWinter : Int32} {v_t_learntNow : Int32} {v_t_forgottenNow : Int32} {v_t_heardMany : Int32} {v_t_its0 : Int32} {v_t_hasImage : Int32} {v_t_imageActs : Int32} {v_t_imageHeard : Int32} {r_t_tape : Nat → Int32} (hret : ∀ (H : Heap) (locs : List Loc) (pc : Nat) (ls : Array Slot), va_P E.1 vwCl (w_X12_goes E a_t a_t_tape a_t_songLong a_t_firstNote a_t_wit a_t_code a_t_refused a_t_newSongLong a_t_newFirstNote a_t_newWit a_t_newRow a_t_readCode a_t_waits a_t_tested a_t_isTold a_t_rows a_t_ahead a_t_told a_t_pile a_t_common a_t_mostOf a_t_likes a_t_heard a_t_soon a_t_soonAll a_t_imageRow a_t_imageAhead a_t_imageHears v_t_thrown v_t_songs v_t_people v_t_forgetsAt v_t_fillsAt v_t_taped v_t_faultKind v_t_faultPlace v_t_long1 o_t_next0 o_t_sort o_t_place o_t_long0 o_t_value o_t_sign o_t_word v_t_newSongs v_t_newPeople v_t_newForgetsAt v_t_newFillsAt v_t_top v_t_firstValue v_t_lastValue v_t_waiting v_t_depth v_t_acts v_t_isWinter v_t_learntNow v_t_forgottenNow v_t_heardMany v_t_its0 v_t_hasImage v_t_imageActs v_t_imageHeard r_t_tape) H → va_S A s.heap H locs → decode cX12_goes pc = .ok (.return_, 1) → W p l e rm_X12_goes s m args below meth c H locs 0 0 Q (F0 m pc ls [])) {K250 : Int32 → Int32 → Option (Int32 × Int32 × Int32 × Int32 × Int32 × Int32 × Int64)} (hK250 : ∀ (v_t_next0 : Int32) (v_t_value : Int32), K250 v_t_next0 v_t_value = some (o_t_next0, o_t_sort, o_t_place, o_t_long0, o_t_value, o_t_sign, o_t_word) → S_X12_goes_250 p l e s m args below meth c Q a_t a_t_tape a_t_songLong a_t_firstNote a_t_wit a_t_code a_t_refused a_t_newSongLong a_t_newFirstNote a_t_newWit a_t_newRow a_t_readCode a_t_waits a_t_tested a_t_isTold a_t_rows a_t_ahead a_t_told a_t_pile a_t_common a_t_mostOf a_t_likes a_t_heard a_t_soon a_t_soonAll a_t_imageRow a_t_imageAhead a_t_imageHears E A v_t_thrown v_t_songs v_t_people v_t_forgetsAt v_t_fillsAt v_t_taped v_t_faultKind v_t_faultPlace v_t_long1 v_t_next0 v_t_sort v_t_place v_t_long0 v_t_value v_t_sign v_t_word v_t_newSongs v_t_newPeople v_t_newForgetsAt v_t_newFillsAt v_t_top v_t_firstValue v_t_lastValue v_t_waiting v_t_depth v_t_acts v_t_isWinter v_t_learntNow v_t_forgottenNow v_t_heardMany v_t_its0 v_t_hasImage v_t_imageActs v_t_imageHeard r_t_tape) {K187 : Int32 → Int32 → Option (Int32 × Int32 × Int32 × Int32 × Int32 × Int32 × Int64)} (hK187 : ∀ (v_t_next0 : Int32) (v_t_value : Int32), K187 v_t_next0 v_t_value = some (o_t_next0, o_t_sort, o_t_place, o_t_long0, o_t_value, o_t_sign, o_t_word) → S_X12_goes_187 p l e s m args below meth c Q a_t a_t_tape a_t_songLong a_t_firstNote a_t_wit a_t_code a_t_refused a_t_newSongLong a_t_newFirstNote a_t_newWit a_t_newRow a_t_readCode a_t_waits a_t_tested a_t_isTold a_t_rows a_t_ahead a_t_told a_t_pile a_t_common a_t_mostOf a_t_likes a_t_heard a_t_soon a_t_soonAll a_t_imageRow a_t_imageAhead a_t_imageHears E A v_t_thrown v_t_songs v_t_people v_t_forgetsAt v_t_fillsAt v_t_taped v_t_faultKind v_t_faultPlace v_t_long1 v_t_next0 v_t_sort v_t_place v_t_long0 v_t_value v_t_sign v_t_word v_t_newSongs v_t_newPeople v_t_newForgetsAt v_t_newFillsAt v_t_top v_t_firstValue v_t_lastValue v_t_waiting v_t_depth v_t_acts v_t_isWinter v_t_learntNow v_t_forgottenNow v_t_heardMany v_t_its0 v_t_hasImage v_t_imageActs v_t_imageHeard r_t_tape) (h : f_X12_goes_187 v_t_long1 v_t_place v_t_sign v_t_word r_t_tape K250 K187 v_t_next0 v_t_value = some (o_t_next0, o_t_sort, o_t_place, o_t_long0, o_t_value, o_t_sign, o_t_word)) : S_X12_goes_187 p l e s m args below meth c Q a_t a_t_tape a_t_songLong a_t_firstNote a_t_wit a_t_code a_t_refused a_t_newSongLong a_t_newFirstNote a_t_newWit a_t_newRow a_t_readCode a_t_waits a_t_tested a_t_isTold a_t_rows a_t_ahead a_t_told a_t_pile a_t_common a_t_mostOf a_t_likes a_t_heard a_t_soon a_t_soonAll a_t_imageRow a_t_imageAhead a_t_imageHears E A v_t_thrown v_t_songs v_t_people v_t_forgetsAt v_t_fillsAt v_t_taped v_t_faultKind v_t_faultPlace v_t_long1 v_t_next0 v_t_sort v_t_place v_t_long0 v_t_value v_t_sign v_t_word v_t_newSongs v_t_newPeople v_t_newForgetsAt v_t_newFillsAt v_t_top v_t_firstValue v_t_lastValue v_t_waiting v_t_depth v_t_acts v_t_isWinter v_t_learntNow v_t_forgottenNow v_t_heardMany v_t_its0 v_t_hasImage v_t_imageActs v_t_imageHeard r_t_tape := by
  obtain ⟨hx, hb, hml, hown, hts, hr, hlk⟩ := id X0
  intro H locs ls hP hD hS hl
  unfold f_X12_goes_187 at h
  refine lv_aload_n hx hb dX12_goes_187 rfl (lv_at hl 0 rfl) ?_
  refine lv_aload_n hx hb dX12_goes_188 rfl (lv_at hl 0 rfl) ?_
  refine va_get (D := E.1) (ci := 12) (v := .int v_t_next0) (C := RX12) (T := TX12) (N := 61) hx hb hts (fun _ h => (List.mem_cons_of_mem _ (List.mem_append_right _ h))) hown hk.1 hP 0 rfl rfl 15 (by decide) (hts (.fieldLink RX12 115 "GapSongsModel" "next0" "I") (List.mem_cons_of_mem _ (List.mem_append_left _ (List.mem_of_getElem? (i := 0) rfl)))) (fun _ h9 => h9) rfl dX12_goes_189 ?_
  obtain ⟨r21, hz21, h⟩ := gs_b1_e h
  refine gs_backRi (va_runV (As := [.int v_t_next0]) (rest := []) ⟨hx, hb, hml, hown, hts⟩ (c_X12_byteAt l E a_t a_t_tape a_t_songLong a_t_firstNote a_t_wit a_t_code a_t_refused a_t_newSongLong a_t_newFirstNote a_t_newWit a_t_newRow a_t_readCode a_t_waits a_t_tested a_t_isTold a_t_rows a_t_ahead a_t_told a_t_pile a_t_common a_t_mostOf a_t_likes a_t_heard a_t_soon a_t_soonAll a_t_imageRow a_t_imageAhead a_t_imageHears v_t_thrown v_t_songs v_t_people v_t_forgetsAt v_t_fillsAt v_t_taped v_t_faultKind v_t_faultPlace v_t_long1 v_t_next0 v_t_sort v_t_place v_t_long0 v_t_value v_t_sign v_t_word v_t_newSongs v_t_newPeople v_t_newForgetsAt v_t_newFillsAt v_t_top v_t_firstValue v_t_lastValue v_t_waiting v_t_depth v_t_acts v_t_isWinter v_t_learntNow v_t_forgottenNow v_t_heardMany v_t_its0 v_t_hasImage v_t_imageActs v_t_imageHeard r_t_tape v_t_next0 r21 hz21) (cwV 1 hts gX12_goes_X12_byteAt rfl rfl rfl (by decide +kernel) ⟨Nat.le_of_ble_eq_true rfl, Nat.le_of_ble_eq_true rfl⟩) (gs_preV (ci := 12) hk hP hD (is := [0, 1]) rfl rfl rfl rfl) rfl rfl hl.1 rfl (lv_room (Nat.le_of_ble_eq_true rfl)) dX12_goes_192 ⟨Nat.zero_le _, Nat.zero_le _⟩) ?_
  obtain ⟨r22, hz22, h⟩ := gs_b1_e h
  refine gs_backRi (va_runS (As := [.int r21]) (rest := []) ⟨hx, hb, hml, hown, hts⟩ (c_X12_isDigit l E r21 r22 hz22) (va_cwS 1 hts gX12_goes_X12_isDigit rfl rfl rfl (by decide +kernel) ⟨Nat.le_of_ble_eq_true rfl, Nat.le_of_ble_eq_true rfl⟩) (gs_pre hk hP hD (is := []) rfl rfl) rfl rfl hl.1 rfl (lv_room (Nat.le_of_ble_eq_true rfl)) dX12_goes_195 ⟨Nat.zero_le _, Nat.zero_le _⟩) ?_
  refine lv_if_eq (tgt := 250) hx hb dX12_goes_198 (by decide) (fun c23 => ?_) (fun c23 => ?_)
  · replace h := gs_ift c23 h
    exact hK250 v_t_next0 v_t_value h _ _ _ hP hD hS (lv_sub hl [0] rfl)
  · replace h := gs_iff c23 h
    refine lv_aload_n hx hb dX12_goes_201 rfl (lv_at hl 0 rfl) ?_
    refine va_get (D := E.1) (ci := 12) (v := .int v_t_next0) (C := RX12) (T := TX12) (N := 61) hx hb hts (fun _ h => (List.mem_cons_of_mem _ (List.mem_append_right _ h))) hown hk.1 hP 0 rfl rfl 15 (by decide) (hts (.fieldLink RX12 115 "GapSongsModel" "next0" "I") (List.mem_cons_of_mem _ (List.mem_append_left _ (List.mem_of_getElem? (i := 0) rfl)))) (fun _ h9 => h9) rfl dX12_goes_202 ?_
    refine lv_aload_n hx hb dX12_goes_205 rfl (lv_at hl 0 rfl) ?_
    refine va_get (D := E.1) (ci := 12) (v := .int v_t_place) (C := RX12) (T := TX12) (N := 61) hx hb hts (fun _ h => (List.mem_cons_of_mem _ (List.mem_append_right _ h))) hown hk.1 hP 0 rfl rfl 17 (by decide) (hts (.fieldLink RX12 122 "GapSongsModel" "place" "I") (List.mem_cons_of_mem _ (List.mem_append_left _ (List.mem_of_getElem? (i := 2) rfl)))) (fun _ h9 => h9) rfl dX12_goes_206 ?_
    refine lv_isub hx hb dX12_goes_209 ?_
    refine lv_iconst (v := 4) hx hb dX12_goes_210 (by decide) ?_
    refine lv_icmp_ge (tgt := 237) hx hb dX12_goes_211 (by decide) (fun c24 => ?_) (fun c24 => ?_)
    · replace h := gs_ift c24 h
      refine lv_aload_n hx hb dX12_goes_237 rfl (lv_at hl 0 rfl) ?_
      refine lv_dup hx hb dX12_goes_238 rfl ?_
      refine va_get (D := E.1) (ci := 12) (v := .int v_t_next0) (C := RX12) (T := TX12) (N := 61) hx hb hts (fun _ h => (List.mem_cons_of_mem _ (List.mem_append_right _ h))) hown hk.1 hP 0 rfl rfl 15 (by decide) (hts (.fieldLink RX12 115 "GapSongsModel" "next0" "I") (List.mem_cons_of_mem _ (List.mem_append_left _ (List.mem_of_getElem? (i := 0) rfl)))) (fun _ h9 => h9) rfl dX12_goes_239 ?_
      refine lv_iconst (v := 1) hx hb dX12_goes_242 (by decide) ?_
      refine lv_iadd hx hb dX12_goes_243 ?_
      refine va_put (D := E.1) (ci := 12) (v := .int (v_t_next0 + 1)) (ty := .int) (C := RX12) (T := TX12) (N := 61) hx hb hts (fun _ h => (List.mem_cons_of_mem _ (List.mem_append_right _ h))) tyX12 tyX12_ok nmX12 hown hk.1 hP hD hS 0 rfl rfl 15 (by decide) (hts (.fieldLink RX12 115 "GapSongsModel" "next0" "I") (List.mem_cons_of_mem _ (List.mem_append_left _ (List.mem_of_getElem? (i := 0) rfl)))) (fun _ h9 => h9) rfl (by decide +kernel) rfl rfl (Nat.le_of_ble_eq_true rfl) dX12_goes_244 (fun H locs hP hD hS => ?_)
      have hP : va_P E.1 vwCl (w_X12_goes E a_t a_t_tape a_t_songLong a_t_firstNote a_t_wit a_t_code a_t_refused a_t_newSongLong a_t_newFirstNote a_t_newWit a_t_newRow a_t_readCode a_t_waits a_t_tested a_t_isTold a_t_rows a_t_ahead a_t_told a_t_pile a_t_common a_t_mostOf a_t_likes a_t_heard a_t_soon a_t_soonAll a_t_imageRow a_t_imageAhead a_t_imageHears v_t_thrown v_t_songs v_t_people v_t_forgetsAt v_t_fillsAt v_t_taped v_t_faultKind v_t_faultPlace v_t_long1 (v_t_next0 + 1) v_t_sort v_t_place v_t_long0 v_t_value v_t_sign v_t_word v_t_newSongs v_t_newPeople v_t_newForgetsAt v_t_newFillsAt v_t_top v_t_firstValue v_t_lastValue v_t_waiting v_t_depth v_t_acts v_t_isWinter v_t_learntNow v_t_forgottenNow v_t_heardMany v_t_its0 v_t_hasImage v_t_imageActs v_t_imageHeard r_t_tape) H := hP
      have hD : va_D A (w_X12_goes E a_t a_t_tape a_t_songLong a_t_firstNote a_t_wit a_t_code a_t_refused a_t_newSongLong a_t_newFirstNote a_t_newWit a_t_newRow a_t_readCode a_t_waits a_t_tested a_t_isTold a_t_rows a_t_ahead a_t_told a_t_pile a_t_common a_t_mostOf a_t_likes a_t_heard a_t_soon a_t_soonAll a_t_imageRow a_t_imageAhead a_t_imageHears v_t_thrown v_t_songs v_t_people v_t_forgetsAt v_t_fillsAt v_t_taped v_t_faultKind v_t_faultPlace v_t_long1 (v_t_next0 + 1) v_t_sort v_t_place v_t_long0 v_t_value v_t_sign v_t_word v_t_newSongs v_t_newPeople v_t_newForgetsAt v_t_newFillsAt v_t_top v_t_firstValue v_t_lastValue v_t_waiting v_t_depth v_t_acts v_t_isWinter v_t_learntNow v_t_forgottenNow v_t_heardMany v_t_its0 v_t_hasImage v_t_imageActs v_t_imageHeard r_t_tape) := hD
      refine lv_goto (tgt := 187) hx hb dX12_goes_247 (by decide) ?_
      exact hK187 (v_t_next0 + 1) v_t_value h _ _ _ hP hD hS (lv_sub hl [0] rfl)
    · replace h := gs_iff c24 h
      refine lv_aload_n hx hb dX12_goes_214 rfl (lv_at hl 0 rfl) ?_
      refine lv_bipush (v := 10) hx hb dX12_goes_215 (by decide) ?_
      refine lv_aload_n hx hb dX12_goes_217 rfl (lv_at hl 0 rfl) ?_
      refine va_get (D := E.1) (ci := 12) (v := .int v_t_value) (C := RX12) (T := TX12) (N := 61) hx hb hts (fun _ h => (List.mem_cons_of_mem _ (List.mem_append_right _ h))) hown hk.1 hP 0 rfl rfl 19 (by decide) (hts (.fieldLink RX12 129 "GapSongsModel" "value" "I") (List.mem_cons_of_mem _ (List.mem_append_left _ (List.mem_of_getElem? (i := 4) rfl)))) (fun _ h9 => h9) rfl dX12_goes_218 ?_
      refine lv_imul hx hb dX12_goes_221 ?_
      refine lv_aload_n hx hb dX12_goes_222 rfl (lv_at hl 0 rfl) ?_
      refine lv_aload_n hx hb dX12_goes_223 rfl (lv_at hl 0 rfl) ?_
      refine va_get (D := E.1) (ci := 12) (v := .int v_t_next0) (C := RX12) (T := TX12) (N := 61) hx hb hts (fun _ h => (List.mem_cons_of_mem _ (List.mem_append_right _ h))) hown hk.1 hP 0 rfl rfl 15 (by decide) (hts (.fieldLink RX12 115 "GapSongsModel" "next0" "I") (List.mem_cons_of_mem _ (List.mem_append_left _ (List.mem_of_getElem? (i := 0) rfl)))) (fun _ h9 => h9) rfl dX12_goes_224 ?_
      obtain ⟨r25, hz25, h⟩ := gs_b1_e h
      refine gs_backRi (va_runV (As := [.int v_t_next0]) (rest := [.int (10 * v_t_value), .ref a_t]) ⟨hx, hb, hml, hown, hts⟩ (c_X12_byteAt l E a_t a_t_tape a_t_songLong a_t_firstNote a_t_wit a_t_code a_t_refused a_t_newSongLong a_t_newFirstNote a_t_newWit a_t_newRow a_t_readCode a_t_waits a_t_tested a_t_isTold a_t_rows a_t_ahead a_t_told a_t_pile a_t_common a_t_mostOf a_t_likes a_t_heard a_t_soon a_t_soonAll a_t_imageRow a_t_imageAhead a_t_imageHears v_t_thrown v_t_songs v_t_people v_t_forgetsAt v_t_fillsAt v_t_taped v_t_faultKind v_t_faultPlace v_t_long1 v_t_next0 v_t_sort v_t_place v_t_long0 v_t_value v_t_sign v_t_word v_t_newSongs v_t_newPeople v_t_newForgetsAt v_t_newFillsAt v_t_top v_t_firstValue v_t_lastValue v_t_waiting v_t_depth v_t_acts v_t_isWinter v_t_learntNow v_t_forgottenNow v_t_heardMany v_t_its0 v_t_hasImage v_t_imageActs v_t_imageHeard r_t_tape v_t_next0 r25 hz25) (cwV 1 hts gX12_goes_X12_byteAt rfl rfl rfl (by decide +kernel) ⟨Nat.le_of_ble_eq_true rfl, Nat.le_of_ble_eq_true rfl⟩) (gs_preV (ci := 12) hk hP hD (is := [0, 1]) rfl rfl rfl rfl) rfl rfl hl.1 rfl (lv_room (Nat.le_of_ble_eq_true rfl)) dX12_goes_227 ⟨Nat.zero_le _, Nat.zero_le _⟩) ?_
      refine lv_iadd hx hb dX12_goes_230 ?_
      refine lv_bipush (v := 48) hx hb dX12_goes_231 (by decide) ?_
      refine lv_isub hx hb dX12_goes_233 ?_
      refine va_put (D := E.1) (ci := 12) (v := .int (((10 * v_t_value) + r25) - 48)) (ty := .int) (C := RX12) (T := TX12) (N := 61) hx hb hts (fun _ h => (List.mem_cons_of_mem _ (List.mem_append_right _ h))) tyX12 tyX12_ok nmX12 hown hk.1 hP hD hS 0 rfl rfl 19 (by decide) (hts (.fieldLink RX12 129 "GapSongsModel" "value" "I") (List.mem_cons_of_mem _ (List.mem_append_left _ (List.mem_of_getElem? (i := 4) rfl)))) (fun _ h9 => h9) rfl (by decide +kernel) rfl rfl (Nat.le_of_ble_eq_true rfl) dX12_goes_234 (fun H locs hP hD hS => ?_)
      have hP : va_P E.1 vwCl (w_X12_goes E a_t a_t_tape a_t_songLong a_t_firstNote a_t_wit a_t_code a_t_refused a_t_newSongLong a_t_newFirstNote a_t_newWit a_t_newRow a_t_readCode a_t_waits a_t_tested a_t_isTold a_t_rows a_t_ahead a_t_told a_t_pile a_t_common a_t_mostOf a_t_likes a_t_heard a_t_soon a_t_soonAll a_t_imageRow a_t_imageAhead a_t_imageHears v_t_thrown v_t_songs v_t_people v_t_forgetsAt v_t_fillsAt v_t_taped v_t_faultKind v_t_faultPlace v_t_long1 v_t_next0 v_t_sort v_t_place v_t_long0 (((10 * v_t_value) + r25) - 48) v_t_sign v_t_word v_t_newSongs v_t_newPeople v_t_newForgetsAt v_t_newFillsAt v_t_top v_t_firstValue v_t_lastValue v_t_waiting v_t_depth v_t_acts v_t_isWinter v_t_learntNow v_t_forgottenNow v_t_heardMany v_t_its0 v_t_hasImage v_t_imageActs v_t_imageHeard r_t_tape) H := hP
      have hD : va_D A (w_X12_goes E a_t a_t_tape a_t_songLong a_t_firstNote a_t_wit a_t_code a_t_refused a_t_newSongLong a_t_newFirstNote a_t_newWit a_t_newRow a_t_readCode a_t_waits a_t_tested a_t_isTold a_t_rows a_t_ahead a_t_told a_t_pile a_t_common a_t_mostOf a_t_likes a_t_heard a_t_soon a_t_soonAll a_t_imageRow a_t_imageAhead a_t_imageHears v_t_thrown v_t_songs v_t_people v_t_forgetsAt v_t_fillsAt v_t_taped v_t_faultKind v_t_faultPlace v_t_long1 v_t_next0 v_t_sort v_t_place v_t_long0 (((10 * v_t_value) + r25) - 48) v_t_sign v_t_word v_t_newSongs v_t_newPeople v_t_newForgetsAt v_t_newFillsAt v_t_top v_t_firstValue v_t_lastValue v_t_waiting v_t_depth v_t_acts v_t_isWinter v_t_learntNow v_t_forgottenNow v_t_heardMany v_t_its0 v_t_hasImage v_t_imageActs v_t_imageHeard r_t_tape) := hD
      refine lv_aload_n hx hb dX12_goes_237 rfl (lv_at hl 0 rfl) ?_
      refine lv_dup hx hb dX12_goes_238 rfl ?_
      refine va_get (D := E.1) (ci := 12) (v := .int v_t_next0) (C := RX12) (T := TX12) (N := 61) hx hb hts (fun _ h => (List.mem_cons_of_mem _ (List.mem_append_right _ h))) hown hk.1 hP 0 rfl rfl 15 (by decide) (hts (.fieldLink RX12 115 "GapSongsModel" "next0" "I") (List.mem_cons_of_mem _ (List.mem_append_left _ (List.mem_of_getElem? (i := 0) rfl)))) (fun _ h9 => h9) rfl dX12_goes_239 ?_
      refine lv_iconst (v := 1) hx hb dX12_goes_242 (by decide) ?_
      refine lv_iadd hx hb dX12_goes_243 ?_
      refine va_put (D := E.1) (ci := 12) (v := .int (v_t_next0 + 1)) (ty := .int) (C := RX12) (T := TX12) (N := 61) hx hb hts (fun _ h => (List.mem_cons_of_mem _ (List.mem_append_right _ h))) tyX12 tyX12_ok nmX12 hown hk.1 hP hD hS 0 rfl rfl 15 (by decide) (hts (.fieldLink RX12 115 "GapSongsModel" "next0" "I") (List.mem_cons_of_mem _ (List.mem_append_left _ (List.mem_of_getElem? (i := 0) rfl)))) (fun _ h9 => h9) rfl (by decide +kernel) rfl rfl (Nat.le_of_ble_eq_true rfl) dX12_goes_244 (fun H locs hP hD hS => ?_)
      have hP : va_P E.1 vwCl (w_X12_goes E a_t a_t_tape a_t_songLong a_t_firstNote a_t_wit a_t_code a_t_refused a_t_newSongLong a_t_newFirstNote a_t_newWit a_t_newRow a_t_readCode a_t_waits a_t_tested a_t_isTold a_t_rows a_t_ahead a_t_told a_t_pile a_t_common a_t_mostOf a_t_likes a_t_heard a_t_soon a_t_soonAll a_t_imageRow a_t_imageAhead a_t_imageHears v_t_thrown v_t_songs v_t_people v_t_forgetsAt v_t_fillsAt v_t_taped v_t_faultKind v_t_faultPlace v_t_long1 (v_t_next0 + 1) v_t_sort v_t_place v_t_long0 (((10 * v_t_value) + r25) - 48) v_t_sign v_t_word v_t_newSongs v_t_newPeople v_t_newForgetsAt v_t_newFillsAt v_t_top v_t_firstValue v_t_lastValue v_t_waiting v_t_depth v_t_acts v_t_isWinter v_t_learntNow v_t_forgottenNow v_t_heardMany v_t_its0 v_t_hasImage v_t_imageActs v_t_imageHeard r_t_tape) H := hP
      have hD : va_D A (w_X12_goes E a_t a_t_tape a_t_songLong a_t_firstNote a_t_wit a_t_code a_t_refused a_t_newSongLong a_t_newFirstNote a_t_newWit a_t_newRow a_t_readCode a_t_waits a_t_tested a_t_isTold a_t_rows a_t_ahead a_t_told a_t_pile a_t_common a_t_mostOf a_t_likes a_t_heard a_t_soon a_t_soonAll a_t_imageRow a_t_imageAhead a_t_imageHears v_t_thrown v_t_songs v_t_people v_t_forgetsAt v_t_fillsAt v_t_taped v_t_faultKind v_t_faultPlace v_t_long1 (v_t_next0 + 1) v_t_sort v_t_place v_t_long0 (((10 * v_t_value) + r25) - 48) v_t_sign v_t_word v_t_newSongs v_t_newPeople v_t_newForgetsAt v_t_newFillsAt v_t_top v_t_firstValue v_t_lastValue v_t_waiting v_t_depth v_t_acts v_t_isWinter v_t_learntNow v_t_forgottenNow v_t_heardMany v_t_its0 v_t_hasImage v_t_imageActs v_t_imageHeard r_t_tape) := hD
      refine lv_goto (tgt := 187) hx hb dX12_goes_247 (by decide) ?_
      exact hK187 (v_t_next0 + 1) (((10 * v_t_value) + r25) - 48) h _ _ _ hP hD hS (lv_sub hl [0] rfl)
set_option maxHeartbeats 4000000 in
set_option maxRecDepth 100000 in
theorem t_X12_goes_187_n {p : Program} {l : Launch} {e : Env} {s : State} {m : MethodId} {args : Array Value} {below : List Frame} {meth : Method} {c : Code} {Q : State → Prop} {E : gs_E} {A : Nat → Prop} {a_t a_t_tape a_t_songLong a_t_firstNote a_t_wit a_t_code a_t_refused a_t_newSongLong a_t_newFirstNote a_t_newWit a_t_newRow a_t_readCode a_t_waits a_t_tested a_t_isTold a_t_rows a_t_ahead a_t_told a_t_pile a_t_common a_t_mostOf a_t_likes a_t_heard a_t_soon a_t_soonAll a_t_imageRow a_t_imageAhead a_t_imageHears : Nat} {o_t_next0 : Int32} {o_t_sort : Int32} {o_t_place : Int32} {o_t_long0 : Int32} {o_t_value : Int32} {o_t_sign : Int32} {o_t_word : Int64} (X0 : gs_X wsX12_goes cX12_goes RX12 2 none p s m args meth c) (hk : gs_K E s) {v_t_thrown : Int32} {v_t_songs : Int32} {v_t_people : Int32} {v_t_forgetsAt : Int32} {v_t_fillsAt : Int32} {v_t_taped : Int32} {v_t_faultKind : Int32} {v_t_faultPlace : Int32} {v_t_long1 : Int32} {v_t_sort : Int32} {v_t_place : Int32} {v_t_long0 : Int32} {v_t_sign : Int32} {v_t_word : Int64} {v_t_newSongs : Int32} {v_t_newPeople : Int32} {v_t_newForgetsAt : Int32} {v_t_newFillsAt : Int32} {v_t_top : Int32} {v_t_firstValue : Int32} {v_t_lastValue : Int32} {v_t_waiting : Int32} {v_t_depth : Int32} {v_t_acts : Int32} {v_t_isWinter : Int32} {v_t_learntNow : Int32} {v_t_forgottenNow : Int32} {v_t_heardMany : Int32} {v_t_its0 : Int32} {v_t_hasImage : Int32} {v_t_imageActs : Int32} {v_t_imageHeard : Int32} {r_t_tape : Nat → Int32} (hret : ∀ (H : Heap) (locs : List Loc) (pc : Nat) (ls : Array Slot), va_P E.1 vwCl (w_X12_goes E a_t a_t_tape a_t_songLong a_t_firstNote a_t_wit a_t_code a_t_refused a_t_newSongLong a_t_newFirstNote a_t_newWit a_t_newRow a_t_readCode a_t_waits a_t_tested a_t_isTold a_t_rows a_t_ahead a_t_told a_t_pile a_t_common a_t_mostOf a_t_likes a_t_heard a_t_soon a_t_soonAll a_t_imageRow a_t_imageAhead a_t_imageHears v_t_thrown v_t_songs v_t_people v_t_forgetsAt v_t_fillsAt v_t_taped v_t_faultKind v_t_faultPlace v_t_long1 o_t_next0 o_t_sort o_t_place o_t_long0 o_t_value o_t_sign o_t_word v_t_newSongs v_t_newPeople v_t_newForgetsAt v_t_newFillsAt v_t_top v_t_firstValue v_t_lastValue v_t_waiting v_t_depth v_t_acts v_t_isWinter v_t_learntNow v_t_forgottenNow v_t_heardMany v_t_its0 v_t_hasImage v_t_imageActs v_t_imageHeard r_t_tape) H → va_S A s.heap H locs → decode cX12_goes pc = .ok (.return_, 1) → W p l e rm_X12_goes s m args below meth c H locs 0 0 Q (F0 m pc ls [])) {K250 : Int32 → Int32 → Option (Int32 × Int32 × Int32 × Int32 × Int32 × Int32 × Int64)} (hK250 : ∀ (v_t_next0 : Int32) (v_t_value : Int32), K250 v_t_next0 v_t_value = some (o_t_next0, o_t_sort, o_t_place, o_t_long0, o_t_value, o_t_sign, o_t_word) → S_X12_goes_250 p l e s m args below meth c Q a_t a_t_tape a_t_songLong a_t_firstNote a_t_wit a_t_code a_t_refused a_t_newSongLong a_t_newFirstNote a_t_newWit a_t_newRow a_t_readCode a_t_waits a_t_tested a_t_isTold a_t_rows a_t_ahead a_t_told a_t_pile a_t_common a_t_mostOf a_t_likes a_t_heard a_t_soon a_t_soonAll a_t_imageRow a_t_imageAhead a_t_imageHears E A v_t_thrown v_t_songs v_t_people v_t_forgetsAt v_t_fillsAt v_t_taped v_t_faultKind v_t_faultPlace v_t_long1 v_t_next0 v_t_sort v_t_place v_t_long0 v_t_value v_t_sign v_t_word v_t_newSongs v_t_newPeople v_t_newForgetsAt v_t_newFillsAt v_t_top v_t_firstValue v_t_lastValue v_t_waiting v_t_depth v_t_acts v_t_isWinter v_t_learntNow v_t_forgottenNow v_t_heardMany v_t_its0 v_t_hasImage v_t_imageActs v_t_imageHeard r_t_tape) : ∀ (n : Nat) (v_t_next0 : Int32) (v_t_value : Int32), gs_it (fun _ _ => none) (f_X12_goes_187 v_t_long1 v_t_place v_t_sign v_t_word r_t_tape K250) n v_t_next0 v_t_value = some (o_t_next0, o_t_sort, o_t_place, o_t_long0, o_t_value, o_t_sign, o_t_word) → S_X12_goes_187 p l e s m args below meth c Q a_t a_t_tape a_t_songLong a_t_firstNote a_t_wit a_t_code a_t_refused a_t_newSongLong a_t_newFirstNote a_t_newWit a_t_newRow a_t_readCode a_t_waits a_t_tested a_t_isTold a_t_rows a_t_ahead a_t_told a_t_pile a_t_common a_t_mostOf a_t_likes a_t_heard a_t_soon a_t_soonAll a_t_imageRow a_t_imageAhead a_t_imageHears E A v_t_thrown v_t_songs v_t_people v_t_forgetsAt v_t_fillsAt v_t_taped v_t_faultKind v_t_faultPlace v_t_long1 v_t_next0 v_t_sort v_t_place v_t_long0 v_t_value v_t_sign v_t_word v_t_newSongs v_t_newPeople v_t_newForgetsAt v_t_newFillsAt v_t_top v_t_firstValue v_t_lastValue v_t_waiting v_t_depth v_t_acts v_t_isWinter v_t_learntNow v_t_forgottenNow v_t_heardMany v_t_its0 v_t_hasImage v_t_imageActs v_t_imageHeard r_t_tape := by
  intro n
  induction n with
  | zero =>
    intro v_t_next0 v_t_value h
    have h : (none : Option (Int32 × Int32 × Int32 × Int32 × Int32 × Int32 × Int64)) = some (o_t_next0, o_t_sort, o_t_place, o_t_long0, o_t_value, o_t_sign, o_t_word) := h
    cases h
  | succ n ih =>
    intro v_t_next0 v_t_value h
    exact t_X12_goes_187_b X0 hk  hret (hK250 := hK250) (K187 := gs_it (fun _ _ => none) (f_X12_goes_187 v_t_long1 v_t_place v_t_sign v_t_word r_t_tape K250) n) (hK187 := ih) (h := h)
theorem t_X12_goes_187 {p : Program} {l : Launch} {e : Env} {s : State} {m : MethodId} {args : Array Value} {below : List Frame} {meth : Method} {c : Code} {Q : State → Prop} {E : gs_E} {A : Nat → Prop} {a_t a_t_tape a_t_songLong a_t_firstNote a_t_wit a_t_code a_t_refused a_t_newSongLong a_t_newFirstNote a_t_newWit a_t_newRow a_t_readCode a_t_waits a_t_tested a_t_isTold a_t_rows a_t_ahead a_t_told a_t_pile a_t_common a_t_mostOf a_t_likes a_t_heard a_t_soon a_t_soonAll a_t_imageRow a_t_imageAhead a_t_imageHears : Nat} {o_t_next0 : Int32} {o_t_sort : Int32} {o_t_place : Int32} {o_t_long0 : Int32} {o_t_value : Int32} {o_t_sign : Int32} {o_t_word : Int64} (X0 : gs_X wsX12_goes cX12_goes RX12 2 none p s m args meth c) (hk : gs_K E s) {v_t_thrown : Int32} {v_t_songs : Int32} {v_t_people : Int32} {v_t_forgetsAt : Int32} {v_t_fillsAt : Int32} {v_t_taped : Int32} {v_t_faultKind : Int32} {v_t_faultPlace : Int32} {v_t_long1 : Int32} {v_t_next0 : Int32} {v_t_sort : Int32} {v_t_place : Int32} {v_t_long0 : Int32} {v_t_value : Int32} {v_t_sign : Int32} {v_t_word : Int64} {v_t_newSongs : Int32} {v_t_newPeople : Int32} {v_t_newForgetsAt : Int32} {v_t_newFillsAt : Int32} {v_t_top : Int32} {v_t_firstValue : Int32} {v_t_lastValue : Int32} {v_t_waiting : Int32} {v_t_depth : Int32} {v_t_acts : Int32} {v_t_isWinter : Int32} {v_t_learntNow : Int32} {v_t_forgottenNow : Int32} {v_t_heardMany : Int32} {v_t_its0 : Int32} {v_t_hasImage : Int32} {v_t_imageActs : Int32} {v_t_imageHeard : Int32} {r_t_tape : Nat → Int32} (hret : ∀ (H : Heap) (locs : List Loc) (pc : Nat) (ls : Array Slot), va_P E.1 vwCl (w_X12_goes E a_t a_t_tape a_t_songLong a_t_firstNote a_t_wit a_t_code a_t_refused a_t_newSongLong a_t_newFirstNote a_t_newWit a_t_newRow a_t_readCode a_t_waits a_t_tested a_t_isTold a_t_rows a_t_ahead a_t_told a_t_pile a_t_common a_t_mostOf a_t_likes a_t_heard a_t_soon a_t_soonAll a_t_imageRow a_t_imageAhead a_t_imageHears v_t_thrown v_t_songs v_t_people v_t_forgetsAt v_t_fillsAt v_t_taped v_t_faultKind v_t_faultPlace v_t_long1 o_t_next0 o_t_sort o_t_place o_t_long0 o_t_value o_t_sign o_t_word v_t_newSongs v_t_newPeople v_t_newForgetsAt v_t_newFillsAt v_t_top v_t_firstValue v_t_lastValue v_t_waiting v_t_depth v_t_acts v_t_isWinter v_t_learntNow v_t_forgottenNow v_t_heardMany v_t_its0 v_t_hasImage v_t_imageActs v_t_imageHeard r_t_tape) H → va_S A s.heap H locs → decode cX12_goes pc = .ok (.return_, 1) → W p l e rm_X12_goes s m args below meth c H locs 0 0 Q (F0 m pc ls [])) {K250 : Int32 → Int32 → Option (Int32 × Int32 × Int32 × Int32 × Int32 × Int32 × Int64)} (hK250 : ∀ (v_t_next0 : Int32) (v_t_value : Int32), K250 v_t_next0 v_t_value = some (o_t_next0, o_t_sort, o_t_place, o_t_long0, o_t_value, o_t_sign, o_t_word) → S_X12_goes_250 p l e s m args below meth c Q a_t a_t_tape a_t_songLong a_t_firstNote a_t_wit a_t_code a_t_refused a_t_newSongLong a_t_newFirstNote a_t_newWit a_t_newRow a_t_readCode a_t_waits a_t_tested a_t_isTold a_t_rows a_t_ahead a_t_told a_t_pile a_t_common a_t_mostOf a_t_likes a_t_heard a_t_soon a_t_soonAll a_t_imageRow a_t_imageAhead a_t_imageHears E A v_t_thrown v_t_songs v_t_people v_t_forgetsAt v_t_fillsAt v_t_taped v_t_faultKind v_t_faultPlace v_t_long1 v_t_next0 v_t_sort v_t_place v_t_long0 v_t_value v_t_sign v_t_word v_t_newSongs v_t_newPeople v_t_newForgetsAt v_t_newFillsAt v_t_top v_t_firstValue v_t_lastValue v_t_waiting v_t_depth v_t_acts v_t_isWinter v_t_learntNow v_t_forgottenNow v_t_heardMany v_t_its0 v_t_hasImage v_t_imageActs v_t_imageHeard r_t_tape) (h : gs_it (fun _ _ => none) (f_X12_goes_187 v_t_long1 v_t_place v_t_sign v_t_word r_t_tape K250) gs_fuel v_t_next0 v_t_value = some (o_t_next0, o_t_sort, o_t_place, o_t_long0, o_t_value, o_t_sign, o_t_word)) : S_X12_goes_187 p l e s m args below meth c Q a_t a_t_tape a_t_songLong a_t_firstNote a_t_wit a_t_code a_t_refused a_t_newSongLong a_t_newFirstNote a_t_newWit a_t_newRow a_t_readCode a_t_waits a_t_tested a_t_isTold a_t_rows a_t_ahead a_t_told a_t_pile a_t_common a_t_mostOf a_t_likes a_t_heard a_t_soon a_t_soonAll a_t_imageRow a_t_imageAhead a_t_imageHears E A v_t_thrown v_t_songs v_t_people v_t_forgetsAt v_t_fillsAt v_t_taped v_t_faultKind v_t_faultPlace v_t_long1 v_t_next0 v_t_sort v_t_place v_t_long0 v_t_value v_t_sign v_t_word v_t_newSongs v_t_newPeople v_t_newForgetsAt v_t_newFillsAt v_t_top v_t_firstValue v_t_lastValue v_t_waiting v_t_depth v_t_acts v_t_isWinter v_t_learntNow v_t_forgottenNow v_t_heardMany v_t_its0 v_t_hasImage v_t_imageActs v_t_imageHeard r_t_tape :=
  t_X12_goes_187_n X0 hk  hret (hK250 := hK250) gs_fuel v_t_next0 v_t_value h
def f_X12_goes_250 (v_t_next0 : Int32) (v_t_place : Int32) (v_t_value : Int32) (v_t_sign : Int32) (v_t_word : Int64) : Option (Int32 × Int32 × Int32 × Int32 × Int32 × Int32 × Int64) :=
  some (v_t_next0, 2, v_t_place, v_t_next0 - v_t_place, v_t_value, v_t_sign, v_t_word)
set_option maxHeartbeats 4000000 in
set_option maxRecDepth 100000 in
theorem t_X12_goes_250 {p : Program} {l : Launch} {e : Env} {s : State} {m : MethodId} {args : Array Value} {below : List Frame} {meth : Method} {c : Code} {Q : State → Prop} {E : gs_E} {A : Nat → Prop} {a_t a_t_tape a_t_songLong a_t_firstNote a_t_wit a_t_code a_t_refused a_t_newSongLong a_t_newFirstNote a_t_newWit a_t_newRow a_t_readCode a_t_waits a_t_tested a_t_isTold a_t_rows a_t_ahead a_t_told a_t_pile a_t_common a_t_mostOf a_t_likes a_t_heard a_t_soon a_t_soonAll a_t_imageRow a_t_imageAhead a_t_imageHears : Nat} {o_t_next0 : Int32} {o_t_sort : Int32} {o_t_place : Int32} {o_t_long0 : Int32} {o_t_value : Int32} {o_t_sign : Int32} {o_t_word : Int64} (X0 : gs_X wsX12_goes cX12_goes RX12 2 none p s m args meth c) (hk : gs_K E s) {v_t_thrown : Int32} {v_t_songs : Int32} {v_t_people : Int32} {v_t_forgetsAt : Int32} {v_t_fillsAt : Int32} {v_t_taped : Int32} {v_t_faultKind : Int32} {v_t_faultPlace : Int32} {v_t_long1 : Int32} {v_t_next0 : Int32} {v_t_sort : Int32} {v_t_place : Int32} {v_t_long0 : Int32} {v_t_value : Int32} {v_t_sign : Int32} {v_t_word : Int64} {v_t_newSongs : Int32} {v_t_newPeople : Int32} {v_t_newForgetsAt : Int32} {v_t_newFillsAt : Int32} {v_t_top : Int32} {v_t_firstValue : Int32} {v_t_lastValue : Int32} {v_t_waiting : Int32} {v_t_depth : Int32} {v_t_acts : Int32} {v_t_isWinter : Int32} {v_t_learntNow : Int32} {v_t_forgottenNow : Int32} {v_t_heardMany : Int32} {v_t_its0 : Int32} {v_t_hasImage : Int32} {v_t_imageActs : Int32} {v_t_imageHeard : Int32} {r_t_tape : Nat → Int32} (hret : ∀ (H : Heap) (locs : List Loc) (pc : Nat) (ls : Array Slot), va_P E.1 vwCl (w_X12_goes E a_t a_t_tape a_t_songLong a_t_firstNote a_t_wit a_t_code a_t_refused a_t_newSongLong a_t_newFirstNote a_t_newWit a_t_newRow a_t_readCode a_t_waits a_t_tested a_t_isTold a_t_rows a_t_ahead a_t_told a_t_pile a_t_common a_t_mostOf a_t_likes a_t_heard a_t_soon a_t_soonAll a_t_imageRow a_t_imageAhead a_t_imageHears v_t_thrown v_t_songs v_t_people v_t_forgetsAt v_t_fillsAt v_t_taped v_t_faultKind v_t_faultPlace v_t_long1 o_t_next0 o_t_sort o_t_place o_t_long0 o_t_value o_t_sign o_t_word v_t_newSongs v_t_newPeople v_t_newForgetsAt v_t_newFillsAt v_t_top v_t_firstValue v_t_lastValue v_t_waiting v_t_depth v_t_acts v_t_isWinter v_t_learntNow v_t_forgottenNow v_t_heardMany v_t_its0 v_t_hasImage v_t_imageActs v_t_imageHeard r_t_tape) H → va_S A s.heap H locs → decode cX12_goes pc = .ok (.return_, 1) → W p l e rm_X12_goes s m args below meth c H locs 0 0 Q (F0 m pc ls [])) (h : f_X12_goes_250 v_t_next0 v_t_place v_t_value v_t_sign v_t_word = some (o_t_next0, o_t_sort, o_t_place, o_t_long0, o_t_value, o_t_sign, o_t_word)) : S_X12_goes_250 p l e s m args below meth c Q a_t a_t_tape a_t_songLong a_t_firstNote a_t_wit a_t_code a_t_refused a_t_newSongLong a_t_newFirstNote a_t_newWit a_t_newRow a_t_readCode a_t_waits a_t_tested a_t_isTold a_t_rows a_t_ahead a_t_told a_t_pile a_t_common a_t_mostOf a_t_likes a_t_heard a_t_soon a_t_soonAll a_t_imageRow a_t_imageAhead a_t_imageHears E A v_t_thrown v_t_songs v_t_people v_t_forgetsAt v_t_fillsAt v_t_taped v_t_faultKind v_t_faultPlace v_t_long1 v_t_next0 v_t_sort v_t_place v_t_long0 v_t_value v_t_sign v_t_word v_t_newSongs v_t_newPeople v_t_newForgetsAt v_t_newFillsAt v_t_top v_t_firstValue v_t_lastValue v_t_waiting v_t_depth v_t_acts v_t_isWinter v_t_learntNow v_t_forgottenNow v_t_heardMany v_t_its0 v_t_hasImage v_t_imageActs v_t_imageHeard r_t_tape := by
  obtain ⟨hx, hb, hml, hown, hts, hr, hlk⟩ := id X0
  intro H locs ls hP hD hS hl
  unfold f_X12_goes_250 at h
  refine lv_aload_n hx hb dX12_goes_250 rfl (lv_at hl 0 rfl) ?_
  refine lv_iconst (v := 2) hx hb dX12_goes_251 (by decide) ?_
  refine va_put (D := E.1) (ci := 12) (v := .int 2) (ty := .int) (C := RX12) (T := TX12) (N := 61) hx hb hts (fun _ h => (List.mem_cons_of_mem _ (List.mem_append_right _ h))) tyX12 tyX12_ok nmX12 hown hk.1 hP hD hS 0 rfl rfl 16 (by decide) (hts (.fieldLink RX12 135 "GapSongsModel" "sort" "I") (List.mem_cons_of_mem _ (List.mem_append_left _ (List.mem_of_getElem? (i := 6) rfl)))) (fun _ h9 => h9) rfl (by decide +kernel) rfl rfl (Nat.le_of_ble_eq_true rfl) dX12_goes_252 (fun H locs hP hD hS => ?_)
  have hP : va_P E.1 vwCl (w_X12_goes E a_t a_t_tape a_t_songLong a_t_firstNote a_t_wit a_t_code a_t_refused a_t_newSongLong a_t_newFirstNote a_t_newWit a_t_newRow a_t_readCode a_t_waits a_t_tested a_t_isTold a_t_rows a_t_ahead a_t_told a_t_pile a_t_common a_t_mostOf a_t_likes a_t_heard a_t_soon a_t_soonAll a_t_imageRow a_t_imageAhead a_t_imageHears v_t_thrown v_t_songs v_t_people v_t_forgetsAt v_t_fillsAt v_t_taped v_t_faultKind v_t_faultPlace v_t_long1 v_t_next0 2 v_t_place v_t_long0 v_t_value v_t_sign v_t_word v_t_newSongs v_t_newPeople v_t_newForgetsAt v_t_newFillsAt v_t_top v_t_firstValue v_t_lastValue v_t_waiting v_t_depth v_t_acts v_t_isWinter v_t_learntNow v_t_forgottenNow v_t_heardMany v_t_its0 v_t_hasImage v_t_imageActs v_t_imageHeard r_t_tape) H := hP
  have hD : va_D A (w_X12_goes E a_t a_t_tape a_t_songLong a_t_firstNote a_t_wit a_t_code a_t_refused a_t_newSongLong a_t_newFirstNote a_t_newWit a_t_newRow a_t_readCode a_t_waits a_t_tested a_t_isTold a_t_rows a_t_ahead a_t_told a_t_pile a_t_common a_t_mostOf a_t_likes a_t_heard a_t_soon a_t_soonAll a_t_imageRow a_t_imageAhead a_t_imageHears v_t_thrown v_t_songs v_t_people v_t_forgetsAt v_t_fillsAt v_t_taped v_t_faultKind v_t_faultPlace v_t_long1 v_t_next0 2 v_t_place v_t_long0 v_t_value v_t_sign v_t_word v_t_newSongs v_t_newPeople v_t_newForgetsAt v_t_newFillsAt v_t_top v_t_firstValue v_t_lastValue v_t_waiting v_t_depth v_t_acts v_t_isWinter v_t_learntNow v_t_forgottenNow v_t_heardMany v_t_its0 v_t_hasImage v_t_imageActs v_t_imageHeard r_t_tape) := hD
  refine lv_goto (tgt := 331) hx hb dX12_goes_255 (by decide) ?_
  refine lv_aload_n hx hb dX12_goes_331 rfl (lv_at hl 0 rfl) ?_
  refine lv_aload_n hx hb dX12_goes_332 rfl (lv_at hl 0 rfl) ?_
  refine va_get (D := E.1) (ci := 12) (v := .int v_t_next0) (C := RX12) (T := TX12) (N := 61) hx hb hts (fun _ h => (List.mem_cons_of_mem _ (List.mem_append_right _ h))) hown hk.1 hP 0 rfl rfl 15 (by decide) (hts (.fieldLink RX12 115 "GapSongsModel" "next0" "I") (List.mem_cons_of_mem _ (List.mem_append_left _ (List.mem_of_getElem? (i := 0) rfl)))) (fun _ h9 => h9) rfl dX12_goes_333 ?_
  refine lv_aload_n hx hb dX12_goes_336 rfl (lv_at hl 0 rfl) ?_
  refine va_get (D := E.1) (ci := 12) (v := .int v_t_place) (C := RX12) (T := TX12) (N := 61) hx hb hts (fun _ h => (List.mem_cons_of_mem _ (List.mem_append_right _ h))) hown hk.1 hP 0 rfl rfl 17 (by decide) (hts (.fieldLink RX12 122 "GapSongsModel" "place" "I") (List.mem_cons_of_mem _ (List.mem_append_left _ (List.mem_of_getElem? (i := 2) rfl)))) (fun _ h9 => h9) rfl dX12_goes_337 ?_
  refine lv_isub hx hb dX12_goes_340 ?_
  refine va_put (D := E.1) (ci := 12) (v := .int (v_t_next0 - v_t_place)) (ty := .int) (C := RX12) (T := TX12) (N := 61) hx hb hts (fun _ h => (List.mem_cons_of_mem _ (List.mem_append_right _ h))) tyX12 tyX12_ok nmX12 hown hk.1 hP hD hS 0 rfl rfl 18 (by decide) (hts (.fieldLink RX12 145 "GapSongsModel" "long0" "I") (List.mem_cons_of_mem _ (List.mem_append_left _ (List.mem_of_getElem? (i := 7) rfl)))) (fun _ h9 => h9) rfl (by decide +kernel) rfl rfl (Nat.le_of_ble_eq_true rfl) dX12_goes_341 (fun H locs hP hD hS => ?_)
  have hP : va_P E.1 vwCl (w_X12_goes E a_t a_t_tape a_t_songLong a_t_firstNote a_t_wit a_t_code a_t_refused a_t_newSongLong a_t_newFirstNote a_t_newWit a_t_newRow a_t_readCode a_t_waits a_t_tested a_t_isTold a_t_rows a_t_ahead a_t_told a_t_pile a_t_common a_t_mostOf a_t_likes a_t_heard a_t_soon a_t_soonAll a_t_imageRow a_t_imageAhead a_t_imageHears v_t_thrown v_t_songs v_t_people v_t_forgetsAt v_t_fillsAt v_t_taped v_t_faultKind v_t_faultPlace v_t_long1 v_t_next0 2 v_t_place (v_t_next0 - v_t_place) v_t_value v_t_sign v_t_word v_t_newSongs v_t_newPeople v_t_newForgetsAt v_t_newFillsAt v_t_top v_t_firstValue v_t_lastValue v_t_waiting v_t_depth v_t_acts v_t_isWinter v_t_learntNow v_t_forgottenNow v_t_heardMany v_t_its0 v_t_hasImage v_t_imageActs v_t_imageHeard r_t_tape) H := hP
  have hD : va_D A (w_X12_goes E a_t a_t_tape a_t_songLong a_t_firstNote a_t_wit a_t_code a_t_refused a_t_newSongLong a_t_newFirstNote a_t_newWit a_t_newRow a_t_readCode a_t_waits a_t_tested a_t_isTold a_t_rows a_t_ahead a_t_told a_t_pile a_t_common a_t_mostOf a_t_likes a_t_heard a_t_soon a_t_soonAll a_t_imageRow a_t_imageAhead a_t_imageHears v_t_thrown v_t_songs v_t_people v_t_forgetsAt v_t_fillsAt v_t_taped v_t_faultKind v_t_faultPlace v_t_long1 v_t_next0 2 v_t_place (v_t_next0 - v_t_place) v_t_value v_t_sign v_t_word v_t_newSongs v_t_newPeople v_t_newForgetsAt v_t_newFillsAt v_t_top v_t_firstValue v_t_lastValue v_t_waiting v_t_depth v_t_acts v_t_isWinter v_t_learntNow v_t_forgottenNow v_t_heardMany v_t_its0 v_t_hasImage v_t_imageActs v_t_imageHeard r_t_tape) := hD
  have h := Option.some.inj h
  obtain ⟨w0, h⟩ := Prod.mk.inj h
  obtain ⟨w1, h⟩ := Prod.mk.inj h
  obtain ⟨w2, h⟩ := Prod.mk.inj h
  obtain ⟨w3, h⟩ := Prod.mk.inj h
  obtain ⟨w4, h⟩ := Prod.mk.inj h
  obtain ⟨w5, h⟩ := Prod.mk.inj h
  subst h
  subst w0
  subst w1
  subst w2
  subst w3
  subst w4
  subst w5
  exact hret _ _ _ _ hP hS dX12_goes_344
def f_X12_goes_108 (v_t_long1 : Int32) (v_t_place : Int32) (v_t_value : Int32) (v_t_sign : Int32) (r_t_tape : Nat → Int32) (K172 : Int32 → Int64 → Option (Int32 × Int32 × Int32 × Int32 × Int32 × Int32 × Int64)) (K108 : Int32 → Int64 → Option (Int32 × Int32 × Int32 × Int32 × Int32 × Int32 × Int64)) (v_t_next0 : Int32) (v_t_word : Int64) : Option (Int32 × Int32 × Int32 × Int32 × Int32 × Int32 × Int64) :=
  gs_b1 (f_X12_byteAt v_t_next0 v_t_long1 r_t_tape) fun r26 =>
  gs_b1 (f_X12_isLetter r26) fun r27 =>
  if r27 = 0 then
    K172 v_t_next0 v_t_word
  else
    if 7 ≤ (v_t_next0 - v_t_place) then
      K108 (v_t_next0 + 1) v_t_word
    else
      gs_b1 (f_X12_byteAt v_t_next0 v_t_long1 r_t_tape) fun r30 =>
      K108 (v_t_next0 + 1) ((v_t_word <<< ((5 : Int32).toInt64 &&& 63)) ||| ((r30 - 96).toInt64))
set_option maxHeartbeats 4000000 in
set_option maxRecDepth 100000 in
theorem t_X12_goes_108_b {p : Program} {l : Launch} {e : Env} {s : State} {m : MethodId} {args : Array Value} {below : List Frame} {meth : Method} {c : Code} {Q : State → Prop} {E : gs_E} {A : Nat → Prop} {a_t a_t_tape a_t_songLong a_t_firstNote a_t_wit a_t_code a_t_refused a_t_newSongLong a_t_newFirstNote a_t_newWit a_t_newRow a_t_readCode a_t_waits a_t_tested a_t_isTold a_t_rows a_t_ahead a_t_told a_t_pile a_t_common a_t_mostOf a_t_likes a_t_heard a_t_soon a_t_soonAll a_t_imageRow a_t_imageAhead a_t_imageHears : Nat} {o_t_next0 : Int32} {o_t_sort : Int32} {o_t_place : Int32} {o_t_long0 : Int32} {o_t_value : Int32} {o_t_sign : Int32} {o_t_word : Int64} (X0 : gs_X wsX12_goes cX12_goes RX12 2 none p s m args meth c) (hk : gs_K E s) {v_t_thrown : Int32} {v_t_songs : Int32} {v_t_people : Int32} {v_t_forgetsAt : Int32} {v_t_fillsAt : Int32} {v_t_taped : Int32} {v_t_faultKind : Int32} {v_t_faultPlace : Int32} {v_t_long1 : Int32} {v_t_next0 : Int32} {v_t_sort : Int32} {v_t_place : Int32} {v_t_long0 : Int32} {v_t_value : Int32} {v_t_sign : Int32} {v_t_word : Int64} {v_t_newSongs : Int32} {v_t_newPeople : Int32} {v_t_newForgetsAt : Int32} {v_t_newFillsAt : Int32} {v_t_top : Int32} {v_t_firstValue : Int32} {v_t_lastValue : Int32} {v_t_waiting : Int32} {v_t_depth : Int32} {v_t_acts : Int32} {v_t_isWinter : Int32} {v_t_learntNow : Int32} {v_t_forgottenNow : Int32} {v_t_heardMany : Int32} {v_t_its0 : Int32} {v_t_hasImage : Int32} {v_t_imageActs : Int32} {v_t_imageHeard : Int32} {r_t_tape : Nat → Int32} (hret : ∀ (H : Heap) (locs : List Loc) (pc : Nat) (ls : Array Slot), va_P E.1 vwCl (w_X12_goes E a_t a_t_tape a_t_songLong a_t_firstNote a_t_wit a_t_code a_t_refused a_t_newSongLong a_t_newFirstNote a_t_newWit a_t_newRow a_t_readCode a_t_waits a_t_tested a_t_isTold a_t_rows a_t_ahead a_t_told a_t_pile a_t_common a_t_mostOf a_t_likes a_t_heard a_t_soon a_t_soonAll a_t_imageRow a_t_imageAhead a_t_imageHears v_t_thrown v_t_songs v_t_people v_t_forgetsAt v_t_fillsAt v_t_taped v_t_faultKind v_t_faultPlace v_t_long1 o_t_next0 o_t_sort o_t_place o_t_long0 o_t_value o_t_sign o_t_word v_t_newSongs v_t_newPeople v_t_newForgetsAt v_t_newFillsAt v_t_top v_t_firstValue v_t_lastValue v_t_waiting v_t_depth v_t_acts v_t_isWinter v_t_learntNow v_t_forgottenNow v_t_heardMany v_t_its0 v_t_hasImage v_t_imageActs v_t_imageHeard r_t_tape) H → va_S A s.heap H locs → decode cX12_goes pc = .ok (.return_, 1) → W p l e rm_X12_goes s m args below meth c H locs 0 0 Q (F0 m pc ls [])) {K172 : Int32 → Int64 → Option (Int32 × Int32 × Int32 × Int32 × Int32 × Int32 × Int64)} (hK172 : ∀ (v_t_next0 : Int32) (v_t_word : Int64), K172 v_t_next0 v_t_word = some (o_t_next0, o_t_sort, o_t_place, o_t_long0, o_t_value, o_t_sign, o_t_word) → S_X12_goes_172 p l e s m args below meth c Q a_t a_t_tape a_t_songLong a_t_firstNote a_t_wit a_t_code a_t_refused a_t_newSongLong a_t_newFirstNote a_t_newWit a_t_newRow a_t_readCode a_t_waits a_t_tested a_t_isTold a_t_rows a_t_ahead a_t_told a_t_pile a_t_common a_t_mostOf a_t_likes a_t_heard a_t_soon a_t_soonAll a_t_imageRow a_t_imageAhead a_t_imageHears E A v_t_thrown v_t_songs v_t_people v_t_forgetsAt v_t_fillsAt v_t_taped v_t_faultKind v_t_faultPlace v_t_long1 v_t_next0 v_t_sort v_t_place v_t_long0 v_t_value v_t_sign v_t_word v_t_newSongs v_t_newPeople v_t_newForgetsAt v_t_newFillsAt v_t_top v_t_firstValue v_t_lastValue v_t_waiting v_t_depth v_t_acts v_t_isWinter v_t_learntNow v_t_forgottenNow v_t_heardMany v_t_its0 v_t_hasImage v_t_imageActs v_t_imageHeard r_t_tape) {K108 : Int32 → Int64 → Option (Int32 × Int32 × Int32 × Int32 × Int32 × Int32 × Int64)} (hK108 : ∀ (v_t_next0 : Int32) (v_t_word : Int64), K108 v_t_next0 v_t_word = some (o_t_next0, o_t_sort, o_t_place, o_t_long0, o_t_value, o_t_sign, o_t_word) → S_X12_goes_108 p l e s m args below meth c Q a_t a_t_tape a_t_songLong a_t_firstNote a_t_wit a_t_code a_t_refused a_t_newSongLong a_t_newFirstNote a_t_newWit a_t_newRow a_t_readCode a_t_waits a_t_tested a_t_isTold a_t_rows a_t_ahead a_t_told a_t_pile a_t_common a_t_mostOf a_t_likes a_t_heard a_t_soon a_t_soonAll a_t_imageRow a_t_imageAhead a_t_imageHears E A v_t_thrown v_t_songs v_t_people v_t_forgetsAt v_t_fillsAt v_t_taped v_t_faultKind v_t_faultPlace v_t_long1 v_t_next0 v_t_sort v_t_place v_t_long0 v_t_value v_t_sign v_t_word v_t_newSongs v_t_newPeople v_t_newForgetsAt v_t_newFillsAt v_t_top v_t_firstValue v_t_lastValue v_t_waiting v_t_depth v_t_acts v_t_isWinter v_t_learntNow v_t_forgottenNow v_t_heardMany v_t_its0 v_t_hasImage v_t_imageActs v_t_imageHeard r_t_tape) (h : f_X12_goes_108 v_t_long1 v_t_place v_t_value v_t_sign r_t_tape K172 K108 v_t_next0 v_t_word = some (o_t_next0, o_t_sort, o_t_place, o_t_long0, o_t_value, o_t_sign, o_t_word)) : S_X12_goes_108 p l e s m args below meth c Q a_t a_t_tape a_t_songLong a_t_firstNote a_t_wit a_t_code a_t_refused a_t_newSongLong a_t_newFirstNote a_t_newWit a_t_newRow a_t_readCode a_t_waits a_t_tested a_t_isTold a_t_rows a_t_ahead a_t_told a_t_pile a_t_common a_t_mostOf a_t_likes a_t_heard a_t_soon a_t_soonAll a_t_imageRow a_t_imageAhead a_t_imageHears E A v_t_thrown v_t_songs v_t_people v_t_forgetsAt v_t_fillsAt v_t_taped v_t_faultKind v_t_faultPlace v_t_long1 v_t_next0 v_t_sort v_t_place v_t_long0 v_t_value v_t_sign v_t_word v_t_newSongs v_t_newPeople v_t_newForgetsAt v_t_newFillsAt v_t_top v_t_firstValue v_t_lastValue v_t_waiting v_t_depth v_t_acts v_t_isWinter v_t_learntNow v_t_forgottenNow v_t_heardMany v_t_its0 v_t_hasImage v_t_imageActs v_t_imageHeard r_t_tape := by
  obtain ⟨hx, hb, hml, hown, hts, hr, hlk⟩ := id X0
  intro H locs ls hP hD hS hl
  unfold f_X12_goes_108 at h
  refine lv_aload_n hx hb dX12_goes_108 rfl (lv_at hl 0 rfl) ?_
  refine lv_aload_n hx hb dX12_goes_109 rfl (lv_at hl 0 rfl) ?_
  refine va_get (D := E.1) (ci := 12) (v := .int v_t_next0) (C := RX12) (T := TX12) (N := 61) hx hb hts (fun _ h => (List.mem_cons_of_mem _ (List.mem_append_right _ h))) hown hk.1 hP 0 rfl rfl 15 (by decide) (hts (.fieldLink RX12 115 "GapSongsModel" "next0" "I") (List.mem_cons_of_mem _ (List.mem_append_left _ (List.mem_of_getElem? (i := 0) rfl)))) (fun _ h9 => h9) rfl dX12_goes_110 ?_
  obtain ⟨r26, hz26, h⟩ := gs_b1_e h
  refine gs_backRi (va_runV (As := [.int v_t_next0]) (rest := []) ⟨hx, hb, hml, hown, hts⟩ (c_X12_byteAt l E a_t a_t_tape a_t_songLong a_t_firstNote a_t_wit a_t_code a_t_refused a_t_newSongLong a_t_newFirstNote a_t_newWit a_t_newRow a_t_readCode a_t_waits a_t_tested a_t_isTold a_t_rows a_t_ahead a_t_told a_t_pile a_t_common a_t_mostOf a_t_likes a_t_heard a_t_soon a_t_soonAll a_t_imageRow a_t_imageAhead a_t_imageHears v_t_thrown v_t_songs v_t_people v_t_forgetsAt v_t_fillsAt v_t_taped v_t_faultKind v_t_faultPlace v_t_long1 v_t_next0 v_t_sort v_t_place v_t_long0 v_t_value v_t_sign v_t_word v_t_newSongs v_t_newPeople v_t_newForgetsAt v_t_newFillsAt v_t_top v_t_firstValue v_t_lastValue v_t_waiting v_t_depth v_t_acts v_t_isWinter v_t_learntNow v_t_forgottenNow v_t_heardMany v_t_its0 v_t_hasImage v_t_imageActs v_t_imageHeard r_t_tape v_t_next0 r26 hz26) (cwV 1 hts gX12_goes_X12_byteAt rfl rfl rfl (by decide +kernel) ⟨Nat.le_of_ble_eq_true rfl, Nat.le_of_ble_eq_true rfl⟩) (gs_preV (ci := 12) hk hP hD (is := [0, 1]) rfl rfl rfl rfl) rfl rfl hl.1 rfl (lv_room (Nat.le_of_ble_eq_true rfl)) dX12_goes_113 ⟨Nat.zero_le _, Nat.zero_le _⟩) ?_
  obtain ⟨r27, hz27, h⟩ := gs_b1_e h
  refine gs_backRi (va_runS (As := [.int r26]) (rest := []) ⟨hx, hb, hml, hown, hts⟩ (c_X12_isLetter l E r26 r27 hz27) (va_cwS 1 hts gX12_goes_X12_isLetter rfl rfl rfl (by decide +kernel) ⟨Nat.le_of_ble_eq_true rfl, Nat.le_of_ble_eq_true rfl⟩) (gs_pre hk hP hD (is := []) rfl rfl) rfl rfl hl.1 rfl (lv_room (Nat.le_of_ble_eq_true rfl)) dX12_goes_116 ⟨Nat.zero_le _, Nat.zero_le _⟩) ?_
  refine lv_if_eq (tgt := 172) hx hb dX12_goes_119 (by decide) (fun c28 => ?_) (fun c28 => ?_)
  · replace h := gs_ift c28 h
    exact hK172 v_t_next0 v_t_word h _ _ _ hP hD hS (lv_sub hl [0] rfl)
  · replace h := gs_iff c28 h
    refine lv_aload_n hx hb dX12_goes_122 rfl (lv_at hl 0 rfl) ?_
    refine va_get (D := E.1) (ci := 12) (v := .int v_t_next0) (C := RX12) (T := TX12) (N := 61) hx hb hts (fun _ h => (List.mem_cons_of_mem _ (List.mem_append_right _ h))) hown hk.1 hP 0 rfl rfl 15 (by decide) (hts (.fieldLink RX12 115 "GapSongsModel" "next0" "I") (List.mem_cons_of_mem _ (List.mem_append_left _ (List.mem_of_getElem? (i := 0) rfl)))) (fun _ h9 => h9) rfl dX12_goes_123 ?_
    refine lv_aload_n hx hb dX12_goes_126 rfl (lv_at hl 0 rfl) ?_
    refine va_get (D := E.1) (ci := 12) (v := .int v_t_place) (C := RX12) (T := TX12) (N := 61) hx hb hts (fun _ h => (List.mem_cons_of_mem _ (List.mem_append_right _ h))) hown hk.1 hP 0 rfl rfl 17 (by decide) (hts (.fieldLink RX12 122 "GapSongsModel" "place" "I") (List.mem_cons_of_mem _ (List.mem_append_left _ (List.mem_of_getElem? (i := 2) rfl)))) (fun _ h9 => h9) rfl dX12_goes_127 ?_
    refine lv_isub hx hb dX12_goes_130 ?_
    refine lv_bipush (v := 7) hx hb dX12_goes_131 (by decide) ?_
    refine lv_icmp_ge (tgt := 159) hx hb dX12_goes_133 (by decide) (fun c29 => ?_) (fun c29 => ?_)
    · replace h := gs_ift c29 h
      refine lv_aload_n hx hb dX12_goes_159 rfl (lv_at hl 0 rfl) ?_
      refine lv_dup hx hb dX12_goes_160 rfl ?_
      refine va_get (D := E.1) (ci := 12) (v := .int v_t_next0) (C := RX12) (T := TX12) (N := 61) hx hb hts (fun _ h => (List.mem_cons_of_mem _ (List.mem_append_right _ h))) hown hk.1 hP 0 rfl rfl 15 (by decide) (hts (.fieldLink RX12 115 "GapSongsModel" "next0" "I") (List.mem_cons_of_mem _ (List.mem_append_left _ (List.mem_of_getElem? (i := 0) rfl)))) (fun _ h9 => h9) rfl dX12_goes_161 ?_
      refine lv_iconst (v := 1) hx hb dX12_goes_164 (by decide) ?_
      refine lv_iadd hx hb dX12_goes_165 ?_
      refine va_put (D := E.1) (ci := 12) (v := .int (v_t_next0 + 1)) (ty := .int) (C := RX12) (T := TX12) (N := 61) hx hb hts (fun _ h => (List.mem_cons_of_mem _ (List.mem_append_right _ h))) tyX12 tyX12_ok nmX12 hown hk.1 hP hD hS 0 rfl rfl 15 (by decide) (hts (.fieldLink RX12 115 "GapSongsModel" "next0" "I") (List.mem_cons_of_mem _ (List.mem_append_left _ (List.mem_of_getElem? (i := 0) rfl)))) (fun _ h9 => h9) rfl (by decide +kernel) rfl rfl (Nat.le_of_ble_eq_true rfl) dX12_goes_166 (fun H locs hP hD hS => ?_)
      have hP : va_P E.1 vwCl (w_X12_goes E a_t a_t_tape a_t_songLong a_t_firstNote a_t_wit a_t_code a_t_refused a_t_newSongLong a_t_newFirstNote a_t_newWit a_t_newRow a_t_readCode a_t_waits a_t_tested a_t_isTold a_t_rows a_t_ahead a_t_told a_t_pile a_t_common a_t_mostOf a_t_likes a_t_heard a_t_soon a_t_soonAll a_t_imageRow a_t_imageAhead a_t_imageHears v_t_thrown v_t_songs v_t_people v_t_forgetsAt v_t_fillsAt v_t_taped v_t_faultKind v_t_faultPlace v_t_long1 (v_t_next0 + 1) v_t_sort v_t_place v_t_long0 v_t_value v_t_sign v_t_word v_t_newSongs v_t_newPeople v_t_newForgetsAt v_t_newFillsAt v_t_top v_t_firstValue v_t_lastValue v_t_waiting v_t_depth v_t_acts v_t_isWinter v_t_learntNow v_t_forgottenNow v_t_heardMany v_t_its0 v_t_hasImage v_t_imageActs v_t_imageHeard r_t_tape) H := hP
      have hD : va_D A (w_X12_goes E a_t a_t_tape a_t_songLong a_t_firstNote a_t_wit a_t_code a_t_refused a_t_newSongLong a_t_newFirstNote a_t_newWit a_t_newRow a_t_readCode a_t_waits a_t_tested a_t_isTold a_t_rows a_t_ahead a_t_told a_t_pile a_t_common a_t_mostOf a_t_likes a_t_heard a_t_soon a_t_soonAll a_t_imageRow a_t_imageAhead a_t_imageHears v_t_thrown v_t_songs v_t_people v_t_forgetsAt v_t_fillsAt v_t_taped v_t_faultKind v_t_faultPlace v_t_long1 (v_t_next0 + 1) v_t_sort v_t_place v_t_long0 v_t_value v_t_sign v_t_word v_t_newSongs v_t_newPeople v_t_newForgetsAt v_t_newFillsAt v_t_top v_t_firstValue v_t_lastValue v_t_waiting v_t_depth v_t_acts v_t_isWinter v_t_learntNow v_t_forgottenNow v_t_heardMany v_t_its0 v_t_hasImage v_t_imageActs v_t_imageHeard r_t_tape) := hD
      refine lv_goto (tgt := 108) hx hb dX12_goes_169 (by decide) ?_
      exact hK108 (v_t_next0 + 1) v_t_word h _ _ _ hP hD hS (lv_sub hl [0] rfl)
    · replace h := gs_iff c29 h
      refine lv_aload_n hx hb dX12_goes_136 rfl (lv_at hl 0 rfl) ?_
      refine lv_aload_n hx hb dX12_goes_137 rfl (lv_at hl 0 rfl) ?_
      refine va_get (D := E.1) (ci := 12) (v := .long v_t_word) (C := RX12) (T := TX12) (N := 61) hx hb hts (fun _ h => (List.mem_cons_of_mem _ (List.mem_append_right _ h))) hown hk.1 hP 0 rfl rfl 21 (by decide) (hts (.fieldLink RX12 125 "GapSongsModel" "word" "J") (List.mem_cons_of_mem _ (List.mem_append_left _ (List.mem_of_getElem? (i := 3) rfl)))) (fun _ h9 => h9) rfl dX12_goes_138 ?_
      refine lv_iconst (v := 5) hx hb dX12_goes_141 (by decide) ?_
      refine lv_lshl (v := v_t_word <<< ((5 : Int32).toInt64 &&& 63)) hx hb dX12_goes_142 rfl ?_
      refine lv_aload_n hx hb dX12_goes_143 rfl (lv_at hl 0 rfl) ?_
      refine lv_aload_n hx hb dX12_goes_144 rfl (lv_at hl 0 rfl) ?_
      refine va_get (D := E.1) (ci := 12) (v := .int v_t_next0) (C := RX12) (T := TX12) (N := 61) hx hb hts (fun _ h => (List.mem_cons_of_mem _ (List.mem_append_right _ h))) hown hk.1 hP 0 rfl rfl 15 (by decide) (hts (.fieldLink RX12 115 "GapSongsModel" "next0" "I") (List.mem_cons_of_mem _ (List.mem_append_left _ (List.mem_of_getElem? (i := 0) rfl)))) (fun _ h9 => h9) rfl dX12_goes_145 ?_
      obtain ⟨r30, hz30, h⟩ := gs_b1_e h
      refine gs_backRi (va_runV (As := [.int v_t_next0]) (rest := [.long (v_t_word <<< ((5 : Int32).toInt64 &&& 63)), .ref a_t]) ⟨hx, hb, hml, hown, hts⟩ (c_X12_byteAt l E a_t a_t_tape a_t_songLong a_t_firstNote a_t_wit a_t_code a_t_refused a_t_newSongLong a_t_newFirstNote a_t_newWit a_t_newRow a_t_readCode a_t_waits a_t_tested a_t_isTold a_t_rows a_t_ahead a_t_told a_t_pile a_t_common a_t_mostOf a_t_likes a_t_heard a_t_soon a_t_soonAll a_t_imageRow a_t_imageAhead a_t_imageHears v_t_thrown v_t_songs v_t_people v_t_forgetsAt v_t_fillsAt v_t_taped v_t_faultKind v_t_faultPlace v_t_long1 v_t_next0 v_t_sort v_t_place v_t_long0 v_t_value v_t_sign v_t_word v_t_newSongs v_t_newPeople v_t_newForgetsAt v_t_newFillsAt v_t_top v_t_firstValue v_t_lastValue v_t_waiting v_t_depth v_t_acts v_t_isWinter v_t_learntNow v_t_forgottenNow v_t_heardMany v_t_its0 v_t_hasImage v_t_imageActs v_t_imageHeard r_t_tape v_t_next0 r30 hz30) (cwV 1 hts gX12_goes_X12_byteAt rfl rfl rfl (by decide +kernel) ⟨Nat.le_of_ble_eq_true rfl, Nat.le_of_ble_eq_true rfl⟩) (gs_preV (ci := 12) hk hP hD (is := [0, 1]) rfl rfl rfl rfl) rfl rfl hl.1 rfl (lv_room (Nat.le_of_ble_eq_true rfl)) dX12_goes_148 ⟨Nat.zero_le _, Nat.zero_le _⟩) ?_
      refine lv_bipush (v := 96) hx hb dX12_goes_151 (by decide) ?_
      refine lv_isub hx hb dX12_goes_153 ?_
      refine lv_i2l (v := (r30 - 96).toInt64) hx hb dX12_goes_154 rfl ?_
      refine lv_lor hx hb dX12_goes_155 ?_
      refine va_put (D := E.1) (ci := 12) (v := .long ((v_t_word <<< ((5 : Int32).toInt64 &&& 63)) ||| ((r30 - 96).toInt64))) (ty := .long) (C := RX12) (T := TX12) (N := 61) hx hb hts (fun _ h => (List.mem_cons_of_mem _ (List.mem_append_right _ h))) tyX12 tyX12_ok nmX12 hown hk.1 hP hD hS 0 rfl rfl 21 (by decide) (hts (.fieldLink RX12 125 "GapSongsModel" "word" "J") (List.mem_cons_of_mem _ (List.mem_append_left _ (List.mem_of_getElem? (i := 3) rfl)))) (fun _ h9 => h9) rfl (by decide +kernel) rfl rfl (Nat.le_of_ble_eq_true rfl) dX12_goes_156 (fun H locs hP hD hS => ?_)
      have hP : va_P E.1 vwCl (w_X12_goes E a_t a_t_tape a_t_songLong a_t_firstNote a_t_wit a_t_code a_t_refused a_t_newSongLong a_t_newFirstNote a_t_newWit a_t_newRow a_t_readCode a_t_waits a_t_tested a_t_isTold a_t_rows a_t_ahead a_t_told a_t_pile a_t_common a_t_mostOf a_t_likes a_t_heard a_t_soon a_t_soonAll a_t_imageRow a_t_imageAhead a_t_imageHears v_t_thrown v_t_songs v_t_people v_t_forgetsAt v_t_fillsAt v_t_taped v_t_faultKind v_t_faultPlace v_t_long1 v_t_next0 v_t_sort v_t_place v_t_long0 v_t_value v_t_sign ((v_t_word <<< ((5 : Int32).toInt64 &&& 63)) ||| ((r30 - 96).toInt64)) v_t_newSongs v_t_newPeople v_t_newForgetsAt v_t_newFillsAt v_t_top v_t_firstValue v_t_lastValue v_t_waiting v_t_depth v_t_acts v_t_isWinter v_t_learntNow v_t_forgottenNow v_t_heardMany v_t_its0 v_t_hasImage v_t_imageActs v_t_imageHeard r_t_tape) H := hP
      have hD : va_D A (w_X12_goes E a_t a_t_tape a_t_songLong a_t_firstNote a_t_wit a_t_code a_t_refused a_t_newSongLong a_t_newFirstNote a_t_newWit a_t_newRow a_t_readCode a_t_waits a_t_tested a_t_isTold a_t_rows a_t_ahead a_t_told a_t_pile a_t_common a_t_mostOf a_t_likes a_t_heard a_t_soon a_t_soonAll a_t_imageRow a_t_imageAhead a_t_imageHears v_t_thrown v_t_songs v_t_people v_t_forgetsAt v_t_fillsAt v_t_taped v_t_faultKind v_t_faultPlace v_t_long1 v_t_next0 v_t_sort v_t_place v_t_long0 v_t_value v_t_sign ((v_t_word <<< ((5 : Int32).toInt64 &&& 63)) ||| ((r30 - 96).toInt64)) v_t_newSongs v_t_newPeople v_t_newForgetsAt v_t_newFillsAt v_t_top v_t_firstValue v_t_lastValue v_t_waiting v_t_depth v_t_acts v_t_isWinter v_t_learntNow v_t_forgottenNow v_t_heardMany v_t_its0 v_t_hasImage v_t_imageActs v_t_imageHeard r_t_tape) := hD
      refine lv_aload_n hx hb dX12_goes_159 rfl (lv_at hl 0 rfl) ?_
      refine lv_dup hx hb dX12_goes_160 rfl ?_
      refine va_get (D := E.1) (ci := 12) (v := .int v_t_next0) (C := RX12) (T := TX12) (N := 61) hx hb hts (fun _ h => (List.mem_cons_of_mem _ (List.mem_append_right _ h))) hown hk.1 hP 0 rfl rfl 15 (by decide) (hts (.fieldLink RX12 115 "GapSongsModel" "next0" "I") (List.mem_cons_of_mem _ (List.mem_append_left _ (List.mem_of_getElem? (i := 0) rfl)))) (fun _ h9 => h9) rfl dX12_goes_161 ?_
      refine lv_iconst (v := 1) hx hb dX12_goes_164 (by decide) ?_
      refine lv_iadd hx hb dX12_goes_165 ?_
      refine va_put (D := E.1) (ci := 12) (v := .int (v_t_next0 + 1)) (ty := .int) (C := RX12) (T := TX12) (N := 61) hx hb hts (fun _ h => (List.mem_cons_of_mem _ (List.mem_append_right _ h))) tyX12 tyX12_ok nmX12 hown hk.1 hP hD hS 0 rfl rfl 15 (by decide) (hts (.fieldLink RX12 115 "GapSongsModel" "next0" "I") (List.mem_cons_of_mem _ (List.mem_append_left _ (List.mem_of_getElem? (i := 0) rfl)))) (fun _ h9 => h9) rfl (by decide +kernel) rfl rfl (Nat.le_of_ble_eq_true rfl) dX12_goes_166 (fun H locs hP hD hS => ?_)
      have hP : va_P E.1 vwCl (w_X12_goes E a_t a_t_tape a_t_songLong a_t_firstNote a_t_wit a_t_code a_t_refused a_t_newSongLong a_t_newFirstNote a_t_newWit a_t_newRow a_t_readCode a_t_waits a_t_tested a_t_isTold a_t_rows a_t_ahead a_t_told a_t_pile a_t_common a_t_mostOf a_t_likes a_t_heard a_t_soon a_t_soonAll a_t_imageRow a_t_imageAhead a_t_imageHears v_t_thrown v_t_songs v_t_people v_t_forgetsAt v_t_fillsAt v_t_taped v_t_faultKind v_t_faultPlace v_t_long1 (v_t_next0 + 1) v_t_sort v_t_place v_t_long0 v_t_value v_t_sign ((v_t_word <<< ((5 : Int32).toInt64 &&& 63)) ||| ((r30 - 96).toInt64)) v_t_newSongs v_t_newPeople v_t_newForgetsAt v_t_newFillsAt v_t_top v_t_firstValue v_t_lastValue v_t_waiting v_t_depth v_t_acts v_t_isWinter v_t_learntNow v_t_forgottenNow v_t_heardMany v_t_its0 v_t_hasImage v_t_imageActs v_t_imageHeard r_t_tape) H := hP
      have hD : va_D A (w_X12_goes E a_t a_t_tape a_t_songLong a_t_firstNote a_t_wit a_t_code a_t_refused a_t_newSongLong a_t_newFirstNote a_t_newWit a_t_newRow a_t_readCode a_t_waits a_t_tested a_t_isTold a_t_rows a_t_ahead a_t_told a_t_pile a_t_common a_t_mostOf a_t_likes a_t_heard a_t_soon a_t_soonAll a_t_imageRow a_t_imageAhead a_t_imageHears v_t_thrown v_t_songs v_t_people v_t_forgetsAt v_t_fillsAt v_t_taped v_t_faultKind v_t_faultPlace v_t_long1 (v_t_next0 + 1) v_t_sort v_t_place v_t_long0 v_t_value v_t_sign ((v_t_word <<< ((5 : Int32).toInt64 &&& 63)) ||| ((r30 - 96).toInt64)) v_t_newSongs v_t_newPeople v_t_newForgetsAt v_t_newFillsAt v_t_top v_t_firstValue v_t_lastValue v_t_waiting v_t_depth v_t_acts v_t_isWinter v_t_learntNow v_t_forgottenNow v_t_heardMany v_t_its0 v_t_hasImage v_t_imageActs v_t_imageHeard r_t_tape) := hD
      refine lv_goto (tgt := 108) hx hb dX12_goes_169 (by decide) ?_
      exact hK108 (v_t_next0 + 1) ((v_t_word <<< ((5 : Int32).toInt64 &&& 63)) ||| ((r30 - 96).toInt64)) h _ _ _ hP hD hS (lv_sub hl [0] rfl)
set_option maxHeartbeats 4000000 in
set_option maxRecDepth 100000 in
theorem t_X12_goes_108_n {p : Program} {l : Launch} {e : Env} {s : State} {m : MethodId} {args : Array Value} {below : List Frame} {meth : Method} {c : Code} {Q : State → Prop} {E : gs_E} {A : Nat → Prop} {a_t a_t_tape a_t_songLong a_t_firstNote a_t_wit a_t_code a_t_refused a_t_newSongLong a_t_newFirstNote a_t_newWit a_t_newRow a_t_readCode a_t_waits a_t_tested a_t_isTold a_t_rows a_t_ahead a_t_told a_t_pile a_t_common a_t_mostOf a_t_likes a_t_heard a_t_soon a_t_soonAll a_t_imageRow a_t_imageAhead a_t_imageHears : Nat} {o_t_next0 : Int32} {o_t_sort : Int32} {o_t_place : Int32} {o_t_long0 : Int32} {o_t_value : Int32} {o_t_sign : Int32} {o_t_word : Int64} (X0 : gs_X wsX12_goes cX12_goes RX12 2 none p s m args meth c) (hk : gs_K E s) {v_t_thrown : Int32} {v_t_songs : Int32} {v_t_people : Int32} {v_t_forgetsAt : Int32} {v_t_fillsAt : Int32} {v_t_taped : Int32} {v_t_faultKind : Int32} {v_t_faultPlace : Int32} {v_t_long1 : Int32} {v_t_sort : Int32} {v_t_place : Int32} {v_t_long0 : Int32} {v_t_value : Int32} {v_t_sign : Int32} {v_t_newSongs : Int32} {v_t_newPeople : Int32} {v_t_newForgetsAt : Int32} {v_t_newFillsAt : Int32} {v_t_top : Int32} {v_t_firstValue : Int32} {v_t_lastValue : Int32} {v_t_waiting : Int32} {v_t_depth : Int32} {v_t_acts : Int32} {v_t_isWinter : Int32} {v_t_learntNow : Int32} {v_t_forgottenNow : Int32} {v_t_heardMany : Int32} {v_t_its0 : Int32} {v_t_hasImage : Int32} {v_t_imageActs : Int32} {v_t_imageHeard : Int32} {r_t_tape : Nat → Int32} (hret : ∀ (H : Heap) (locs : List Loc) (pc : Nat) (ls : Array Slot), va_P E.1 vwCl (w_X12_goes E a_t a_t_tape a_t_songLong a_t_firstNote a_t_wit a_t_code a_t_refused a_t_newSongLong a_t_newFirstNote a_t_newWit a_t_newRow a_t_readCode a_t_waits a_t_tested a_t_isTold a_t_rows a_t_ahead a_t_told a_t_pile a_t_common a_t_mostOf a_t_likes a_t_heard a_t_soon a_t_soonAll a_t_imageRow a_t_imageAhead a_t_imageHears v_t_thrown v_t_songs v_t_people v_t_forgetsAt v_t_fillsAt v_t_taped v_t_faultKind v_t_faultPlace v_t_long1 o_t_next0 o_t_sort o_t_place o_t_long0 o_t_value o_t_sign o_t_word v_t_newSongs v_t_newPeople v_t_newForgetsAt v_t_newFillsAt v_t_top v_t_firstValue v_t_lastValue v_t_waiting v_t_depth v_t_acts v_t_isWinter v_t_learntNow v_t_forgottenNow v_t_heardMany v_t_its0 v_t_hasImage v_t_imageActs v_t_imageHeard r_t_tape) H → va_S A s.heap H locs → decode cX12_goes pc = .ok (.return_, 1) → W p l e rm_X12_goes s m args below meth c H locs 0 0 Q (F0 m pc ls [])) {K172 : Int32 → Int64 → Option (Int32 × Int32 × Int32 × Int32 × Int32 × Int32 × Int64)} (hK172 : ∀ (v_t_next0 : Int32) (v_t_word : Int64), K172 v_t_next0 v_t_word = some (o_t_next0, o_t_sort, o_t_place, o_t_long0, o_t_value, o_t_sign, o_t_word) → S_X12_goes_172 p l e s m args below meth c Q a_t a_t_tape a_t_songLong a_t_firstNote a_t_wit a_t_code a_t_refused a_t_newSongLong a_t_newFirstNote a_t_newWit a_t_newRow a_t_readCode a_t_waits a_t_tested a_t_isTold a_t_rows a_t_ahead a_t_told a_t_pile a_t_common a_t_mostOf a_t_likes a_t_heard a_t_soon a_t_soonAll a_t_imageRow a_t_imageAhead a_t_imageHears E A v_t_thrown v_t_songs v_t_people v_t_forgetsAt v_t_fillsAt v_t_taped v_t_faultKind v_t_faultPlace v_t_long1 v_t_next0 v_t_sort v_t_place v_t_long0 v_t_value v_t_sign v_t_word v_t_newSongs v_t_newPeople v_t_newForgetsAt v_t_newFillsAt v_t_top v_t_firstValue v_t_lastValue v_t_waiting v_t_depth v_t_acts v_t_isWinter v_t_learntNow v_t_forgottenNow v_t_heardMany v_t_its0 v_t_hasImage v_t_imageActs v_t_imageHeard r_t_tape) : ∀ (n : Nat) (v_t_next0 : Int32) (v_t_word : Int64), gs_it (fun _ _ => none) (f_X12_goes_108 v_t_long1 v_t_place v_t_value v_t_sign r_t_tape K172) n v_t_next0 v_t_word = some (o_t_next0, o_t_sort, o_t_place, o_t_long0, o_t_value, o_t_sign, o_t_word) → S_X12_goes_108 p l e s m args below meth c Q a_t a_t_tape a_t_songLong a_t_firstNote a_t_wit a_t_code a_t_refused a_t_newSongLong a_t_newFirstNote a_t_newWit a_t_newRow a_t_readCode a_t_waits a_t_tested a_t_isTold a_t_rows a_t_ahead a_t_told a_t_pile a_t_common a_t_mostOf a_t_likes a_t_heard a_t_soon a_t_soonAll a_t_imageRow a_t_imageAhead a_t_imageHears E A v_t_thrown v_t_songs v_t_people v_t_forgetsAt v_t_fillsAt v_t_taped v_t_faultKind v_t_faultPlace v_t_long1 v_t_next0 v_t_sort v_t_place v_t_long0 v_t_value v_t_sign v_t_word v_t_newSongs v_t_newPeople v_t_newForgetsAt v_t_newFillsAt v_t_top v_t_firstValue v_t_lastValue v_t_waiting v_t_depth v_t_acts v_t_isWinter v_t_learntNow v_t_forgottenNow v_t_heardMany v_t_its0 v_t_hasImage v_t_imageActs v_t_imageHeard r_t_tape := by
  intro n
  induction n with
  | zero =>
    intro v_t_next0 v_t_word h
    have h : (none : Option (Int32 × Int32 × Int32 × Int32 × Int32 × Int32 × Int64)) = some (o_t_next0, o_t_sort, o_t_place, o_t_long0, o_t_value, o_t_sign, o_t_word) := h
    cases h
  | succ n ih =>
    intro v_t_next0 v_t_word h
    exact t_X12_goes_108_b X0 hk  hret (hK172 := hK172) (K108 := gs_it (fun _ _ => none) (f_X12_goes_108 v_t_long1 v_t_place v_t_value v_t_sign r_t_tape K172) n) (hK108 := ih) (h := h)
theorem t_X12_goes_108 {p : Program} {l : Launch} {e : Env} {s : State} {m : MethodId} {args : Array Value} {below : List Frame} {meth : Method} {c : Code} {Q : State → Prop} {E : gs_E} {A : Nat → Prop} {a_t a_t_tape a_t_songLong a_t_firstNote a_t_wit a_t_code a_t_refused a_t_newSongLong a_t_newFirstNote a_t_newWit a_t_newRow a_t_readCode a_t_waits a_t_tested a_t_isTold a_t_rows a_t_ahead a_t_told a_t_pile a_t_common a_t_mostOf a_t_likes a_t_heard a_t_soon a_t_soonAll a_t_imageRow a_t_imageAhead a_t_imageHears : Nat} {o_t_next0 : Int32} {o_t_sort : Int32} {o_t_place : Int32} {o_t_long0 : Int32} {o_t_value : Int32} {o_t_sign : Int32} {o_t_word : Int64} (X0 : gs_X wsX12_goes cX12_goes RX12 2 none p s m args meth c) (hk : gs_K E s) {v_t_thrown : Int32} {v_t_songs : Int32} {v_t_people : Int32} {v_t_forgetsAt : Int32} {v_t_fillsAt : Int32} {v_t_taped : Int32} {v_t_faultKind : Int32} {v_t_faultPlace : Int32} {v_t_long1 : Int32} {v_t_next0 : Int32} {v_t_sort : Int32} {v_t_place : Int32} {v_t_long0 : Int32} {v_t_value : Int32} {v_t_sign : Int32} {v_t_word : Int64} {v_t_newSongs : Int32} {v_t_newPeople : Int32} {v_t_newForgetsAt : Int32} {v_t_newFillsAt : Int32} {v_t_top : Int32} {v_t_firstValue : Int32} {v_t_lastValue : Int32} {v_t_waiting : Int32} {v_t_depth : Int32} {v_t_acts : Int32} {v_t_isWinter : Int32} {v_t_learntNow : Int32} {v_t_forgottenNow : Int32} {v_t_heardMany : Int32} {v_t_its0 : Int32} {v_t_hasImage : Int32} {v_t_imageActs : Int32} {v_t_imageHeard : Int32} {r_t_tape : Nat → Int32} (hret : ∀ (H : Heap) (locs : List Loc) (pc : Nat) (ls : Array Slot), va_P E.1 vwCl (w_X12_goes E a_t a_t_tape a_t_songLong a_t_firstNote a_t_wit a_t_code a_t_refused a_t_newSongLong a_t_newFirstNote a_t_newWit a_t_newRow a_t_readCode a_t_waits a_t_tested a_t_isTold a_t_rows a_t_ahead a_t_told a_t_pile a_t_common a_t_mostOf a_t_likes a_t_heard a_t_soon a_t_soonAll a_t_imageRow a_t_imageAhead a_t_imageHears v_t_thrown v_t_songs v_t_people v_t_forgetsAt v_t_fillsAt v_t_taped v_t_faultKind v_t_faultPlace v_t_long1 o_t_next0 o_t_sort o_t_place o_t_long0 o_t_value o_t_sign o_t_word v_t_newSongs v_t_newPeople v_t_newForgetsAt v_t_newFillsAt v_t_top v_t_firstValue v_t_lastValue v_t_waiting v_t_depth v_t_acts v_t_isWinter v_t_learntNow v_t_forgottenNow v_t_heardMany v_t_its0 v_t_hasImage v_t_imageActs v_t_imageHeard r_t_tape) H → va_S A s.heap H locs → decode cX12_goes pc = .ok (.return_, 1) → W p l e rm_X12_goes s m args below meth c H locs 0 0 Q (F0 m pc ls [])) {K172 : Int32 → Int64 → Option (Int32 × Int32 × Int32 × Int32 × Int32 × Int32 × Int64)} (hK172 : ∀ (v_t_next0 : Int32) (v_t_word : Int64), K172 v_t_next0 v_t_word = some (o_t_next0, o_t_sort, o_t_place, o_t_long0, o_t_value, o_t_sign, o_t_word) → S_X12_goes_172 p l e s m args below meth c Q a_t a_t_tape a_t_songLong a_t_firstNote a_t_wit a_t_code a_t_refused a_t_newSongLong a_t_newFirstNote a_t_newWit a_t_newRow a_t_readCode a_t_waits a_t_tested a_t_isTold a_t_rows a_t_ahead a_t_told a_t_pile a_t_common a_t_mostOf a_t_likes a_t_heard a_t_soon a_t_soonAll a_t_imageRow a_t_imageAhead a_t_imageHears E A v_t_thrown v_t_songs v_t_people v_t_forgetsAt v_t_fillsAt v_t_taped v_t_faultKind v_t_faultPlace v_t_long1 v_t_next0 v_t_sort v_t_place v_t_long0 v_t_value v_t_sign v_t_word v_t_newSongs v_t_newPeople v_t_newForgetsAt v_t_newFillsAt v_t_top v_t_firstValue v_t_lastValue v_t_waiting v_t_depth v_t_acts v_t_isWinter v_t_learntNow v_t_forgottenNow v_t_heardMany v_t_its0 v_t_hasImage v_t_imageActs v_t_imageHeard r_t_tape) (h : gs_it (fun _ _ => none) (f_X12_goes_108 v_t_long1 v_t_place v_t_value v_t_sign r_t_tape K172) gs_fuel v_t_next0 v_t_word = some (o_t_next0, o_t_sort, o_t_place, o_t_long0, o_t_value, o_t_sign, o_t_word)) : S_X12_goes_108 p l e s m args below meth c Q a_t a_t_tape a_t_songLong a_t_firstNote a_t_wit a_t_code a_t_refused a_t_newSongLong a_t_newFirstNote a_t_newWit a_t_newRow a_t_readCode a_t_waits a_t_tested a_t_isTold a_t_rows a_t_ahead a_t_told a_t_pile a_t_common a_t_mostOf a_t_likes a_t_heard a_t_soon a_t_soonAll a_t_imageRow a_t_imageAhead a_t_imageHears E A v_t_thrown v_t_songs v_t_people v_t_forgetsAt v_t_fillsAt v_t_taped v_t_faultKind v_t_faultPlace v_t_long1 v_t_next0 v_t_sort v_t_place v_t_long0 v_t_value v_t_sign v_t_word v_t_newSongs v_t_newPeople v_t_newForgetsAt v_t_newFillsAt v_t_top v_t_firstValue v_t_lastValue v_t_waiting v_t_depth v_t_acts v_t_isWinter v_t_learntNow v_t_forgottenNow v_t_heardMany v_t_its0 v_t_hasImage v_t_imageActs v_t_imageHeard r_t_tape :=
  t_X12_goes_108_n X0 hk  hret (hK172 := hK172) gs_fuel v_t_next0 v_t_word h
def f_X12_goes_172 (v_t_next0 : Int32) (v_t_place : Int32) (v_t_value : Int32) (v_t_sign : Int32) (v_t_word : Int64) : Option (Int32 × Int32 × Int32 × Int32 × Int32 × Int32 × Int64) :=
  some (v_t_next0, 1, v_t_place, v_t_next0 - v_t_place, v_t_value, v_t_sign, v_t_word)
set_option maxHeartbeats 4000000 in
set_option maxRecDepth 100000 in
theorem t_X12_goes_172 {p : Program} {l : Launch} {e : Env} {s : State} {m : MethodId} {args : Array Value} {below : List Frame} {meth : Method} {c : Code} {Q : State → Prop} {E : gs_E} {A : Nat → Prop} {a_t a_t_tape a_t_songLong a_t_firstNote a_t_wit a_t_code a_t_refused a_t_newSongLong a_t_newFirstNote a_t_newWit a_t_newRow a_t_readCode a_t_waits a_t_tested a_t_isTold a_t_rows a_t_ahead a_t_told a_t_pile a_t_common a_t_mostOf a_t_likes a_t_heard a_t_soon a_t_soonAll a_t_imageRow a_t_imageAhead a_t_imageHears : Nat} {o_t_next0 : Int32} {o_t_sort : Int32} {o_t_place : Int32} {o_t_long0 : Int32} {o_t_value : Int32} {o_t_sign : Int32} {o_t_word : Int64} (X0 : gs_X wsX12_goes cX12_goes RX12 2 none p s m args meth c) (hk : gs_K E s) {v_t_thrown : Int32} {v_t_songs : Int32} {v_t_people : Int32} {v_t_forgetsAt : Int32} {v_t_fillsAt : Int32} {v_t_taped : Int32} {v_t_faultKind : Int32} {v_t_faultPlace : Int32} {v_t_long1 : Int32} {v_t_next0 : Int32} {v_t_sort : Int32} {v_t_place : Int32} {v_t_long0 : Int32} {v_t_value : Int32} {v_t_sign : Int32} {v_t_word : Int64} {v_t_newSongs : Int32} {v_t_newPeople : Int32} {v_t_newForgetsAt : Int32} {v_t_newFillsAt : Int32} {v_t_top : Int32} {v_t_firstValue : Int32} {v_t_lastValue : Int32} {v_t_waiting : Int32} {v_t_depth : Int32} {v_t_acts : Int32} {v_t_isWinter : Int32} {v_t_learntNow : Int32} {v_t_forgottenNow : Int32} {v_t_heardMany : Int32} {v_t_its0 : Int32} {v_t_hasImage : Int32} {v_t_imageActs : Int32} {v_t_imageHeard : Int32} {r_t_tape : Nat → Int32} (hret : ∀ (H : Heap) (locs : List Loc) (pc : Nat) (ls : Array Slot), va_P E.1 vwCl (w_X12_goes E a_t a_t_tape a_t_songLong a_t_firstNote a_t_wit a_t_code a_t_refused a_t_newSongLong a_t_newFirstNote a_t_newWit a_t_newRow a_t_readCode a_t_waits a_t_tested a_t_isTold a_t_rows a_t_ahead a_t_told a_t_pile a_t_common a_t_mostOf a_t_likes a_t_heard a_t_soon a_t_soonAll a_t_imageRow a_t_imageAhead a_t_imageHears v_t_thrown v_t_songs v_t_people v_t_forgetsAt v_t_fillsAt v_t_taped v_t_faultKind v_t_faultPlace v_t_long1 o_t_next0 o_t_sort o_t_place o_t_long0 o_t_value o_t_sign o_t_word v_t_newSongs v_t_newPeople v_t_newForgetsAt v_t_newFillsAt v_t_top v_t_firstValue v_t_lastValue v_t_waiting v_t_depth v_t_acts v_t_isWinter v_t_learntNow v_t_forgottenNow v_t_heardMany v_t_its0 v_t_hasImage v_t_imageActs v_t_imageHeard r_t_tape) H → va_S A s.heap H locs → decode cX12_goes pc = .ok (.return_, 1) → W p l e rm_X12_goes s m args below meth c H locs 0 0 Q (F0 m pc ls [])) (h : f_X12_goes_172 v_t_next0 v_t_place v_t_value v_t_sign v_t_word = some (o_t_next0, o_t_sort, o_t_place, o_t_long0, o_t_value, o_t_sign, o_t_word)) : S_X12_goes_172 p l e s m args below meth c Q a_t a_t_tape a_t_songLong a_t_firstNote a_t_wit a_t_code a_t_refused a_t_newSongLong a_t_newFirstNote a_t_newWit a_t_newRow a_t_readCode a_t_waits a_t_tested a_t_isTold a_t_rows a_t_ahead a_t_told a_t_pile a_t_common a_t_mostOf a_t_likes a_t_heard a_t_soon a_t_soonAll a_t_imageRow a_t_imageAhead a_t_imageHears E A v_t_thrown v_t_songs v_t_people v_t_forgetsAt v_t_fillsAt v_t_taped v_t_faultKind v_t_faultPlace v_t_long1 v_t_next0 v_t_sort v_t_place v_t_long0 v_t_value v_t_sign v_t_word v_t_newSongs v_t_newPeople v_t_newForgetsAt v_t_newFillsAt v_t_top v_t_firstValue v_t_lastValue v_t_waiting v_t_depth v_t_acts v_t_isWinter v_t_learntNow v_t_forgottenNow v_t_heardMany v_t_its0 v_t_hasImage v_t_imageActs v_t_imageHeard r_t_tape := by
  obtain ⟨hx, hb, hml, hown, hts, hr, hlk⟩ := id X0
  intro H locs ls hP hD hS hl
  unfold f_X12_goes_172 at h
  refine lv_aload_n hx hb dX12_goes_172 rfl (lv_at hl 0 rfl) ?_
  refine lv_iconst (v := 1) hx hb dX12_goes_173 (by decide) ?_
  refine va_put (D := E.1) (ci := 12) (v := .int 1) (ty := .int) (C := RX12) (T := TX12) (N := 61) hx hb hts (fun _ h => (List.mem_cons_of_mem _ (List.mem_append_right _ h))) tyX12 tyX12_ok nmX12 hown hk.1 hP hD hS 0 rfl rfl 16 (by decide) (hts (.fieldLink RX12 135 "GapSongsModel" "sort" "I") (List.mem_cons_of_mem _ (List.mem_append_left _ (List.mem_of_getElem? (i := 6) rfl)))) (fun _ h9 => h9) rfl (by decide +kernel) rfl rfl (Nat.le_of_ble_eq_true rfl) dX12_goes_174 (fun H locs hP hD hS => ?_)
  have hP : va_P E.1 vwCl (w_X12_goes E a_t a_t_tape a_t_songLong a_t_firstNote a_t_wit a_t_code a_t_refused a_t_newSongLong a_t_newFirstNote a_t_newWit a_t_newRow a_t_readCode a_t_waits a_t_tested a_t_isTold a_t_rows a_t_ahead a_t_told a_t_pile a_t_common a_t_mostOf a_t_likes a_t_heard a_t_soon a_t_soonAll a_t_imageRow a_t_imageAhead a_t_imageHears v_t_thrown v_t_songs v_t_people v_t_forgetsAt v_t_fillsAt v_t_taped v_t_faultKind v_t_faultPlace v_t_long1 v_t_next0 1 v_t_place v_t_long0 v_t_value v_t_sign v_t_word v_t_newSongs v_t_newPeople v_t_newForgetsAt v_t_newFillsAt v_t_top v_t_firstValue v_t_lastValue v_t_waiting v_t_depth v_t_acts v_t_isWinter v_t_learntNow v_t_forgottenNow v_t_heardMany v_t_its0 v_t_hasImage v_t_imageActs v_t_imageHeard r_t_tape) H := hP
  have hD : va_D A (w_X12_goes E a_t a_t_tape a_t_songLong a_t_firstNote a_t_wit a_t_code a_t_refused a_t_newSongLong a_t_newFirstNote a_t_newWit a_t_newRow a_t_readCode a_t_waits a_t_tested a_t_isTold a_t_rows a_t_ahead a_t_told a_t_pile a_t_common a_t_mostOf a_t_likes a_t_heard a_t_soon a_t_soonAll a_t_imageRow a_t_imageAhead a_t_imageHears v_t_thrown v_t_songs v_t_people v_t_forgetsAt v_t_fillsAt v_t_taped v_t_faultKind v_t_faultPlace v_t_long1 v_t_next0 1 v_t_place v_t_long0 v_t_value v_t_sign v_t_word v_t_newSongs v_t_newPeople v_t_newForgetsAt v_t_newFillsAt v_t_top v_t_firstValue v_t_lastValue v_t_waiting v_t_depth v_t_acts v_t_isWinter v_t_learntNow v_t_forgottenNow v_t_heardMany v_t_its0 v_t_hasImage v_t_imageActs v_t_imageHeard r_t_tape) := hD
  refine lv_goto (tgt := 331) hx hb dX12_goes_177 (by decide) ?_
  refine lv_aload_n hx hb dX12_goes_331 rfl (lv_at hl 0 rfl) ?_
  refine lv_aload_n hx hb dX12_goes_332 rfl (lv_at hl 0 rfl) ?_
  refine va_get (D := E.1) (ci := 12) (v := .int v_t_next0) (C := RX12) (T := TX12) (N := 61) hx hb hts (fun _ h => (List.mem_cons_of_mem _ (List.mem_append_right _ h))) hown hk.1 hP 0 rfl rfl 15 (by decide) (hts (.fieldLink RX12 115 "GapSongsModel" "next0" "I") (List.mem_cons_of_mem _ (List.mem_append_left _ (List.mem_of_getElem? (i := 0) rfl)))) (fun _ h9 => h9) rfl dX12_goes_333 ?_
  refine lv_aload_n hx hb dX12_goes_336 rfl (lv_at hl 0 rfl) ?_
  refine va_get (D := E.1) (ci := 12) (v := .int v_t_place) (C := RX12) (T := TX12) (N := 61) hx hb hts (fun _ h => (List.mem_cons_of_mem _ (List.mem_append_right _ h))) hown hk.1 hP 0 rfl rfl 17 (by decide) (hts (.fieldLink RX12 122 "GapSongsModel" "place" "I") (List.mem_cons_of_mem _ (List.mem_append_left _ (List.mem_of_getElem? (i := 2) rfl)))) (fun _ h9 => h9) rfl dX12_goes_337 ?_
  refine lv_isub hx hb dX12_goes_340 ?_
  refine va_put (D := E.1) (ci := 12) (v := .int (v_t_next0 - v_t_place)) (ty := .int) (C := RX12) (T := TX12) (N := 61) hx hb hts (fun _ h => (List.mem_cons_of_mem _ (List.mem_append_right _ h))) tyX12 tyX12_ok nmX12 hown hk.1 hP hD hS 0 rfl rfl 18 (by decide) (hts (.fieldLink RX12 145 "GapSongsModel" "long0" "I") (List.mem_cons_of_mem _ (List.mem_append_left _ (List.mem_of_getElem? (i := 7) rfl)))) (fun _ h9 => h9) rfl (by decide +kernel) rfl rfl (Nat.le_of_ble_eq_true rfl) dX12_goes_341 (fun H locs hP hD hS => ?_)
  have hP : va_P E.1 vwCl (w_X12_goes E a_t a_t_tape a_t_songLong a_t_firstNote a_t_wit a_t_code a_t_refused a_t_newSongLong a_t_newFirstNote a_t_newWit a_t_newRow a_t_readCode a_t_waits a_t_tested a_t_isTold a_t_rows a_t_ahead a_t_told a_t_pile a_t_common a_t_mostOf a_t_likes a_t_heard a_t_soon a_t_soonAll a_t_imageRow a_t_imageAhead a_t_imageHears v_t_thrown v_t_songs v_t_people v_t_forgetsAt v_t_fillsAt v_t_taped v_t_faultKind v_t_faultPlace v_t_long1 v_t_next0 1 v_t_place (v_t_next0 - v_t_place) v_t_value v_t_sign v_t_word v_t_newSongs v_t_newPeople v_t_newForgetsAt v_t_newFillsAt v_t_top v_t_firstValue v_t_lastValue v_t_waiting v_t_depth v_t_acts v_t_isWinter v_t_learntNow v_t_forgottenNow v_t_heardMany v_t_its0 v_t_hasImage v_t_imageActs v_t_imageHeard r_t_tape) H := hP
  have hD : va_D A (w_X12_goes E a_t a_t_tape a_t_songLong a_t_firstNote a_t_wit a_t_code a_t_refused a_t_newSongLong a_t_newFirstNote a_t_newWit a_t_newRow a_t_readCode a_t_waits a_t_tested a_t_isTold a_t_rows a_t_ahead a_t_told a_t_pile a_t_common a_t_mostOf a_t_likes a_t_heard a_t_soon a_t_soonAll a_t_imageRow a_t_imageAhead a_t_imageHears v_t_thrown v_t_songs v_t_people v_t_forgetsAt v_t_fillsAt v_t_taped v_t_faultKind v_t_faultPlace v_t_long1 v_t_next0 1 v_t_place (v_t_next0 - v_t_place) v_t_value v_t_sign v_t_word v_t_newSongs v_t_newPeople v_t_newForgetsAt v_t_newFillsAt v_t_top v_t_firstValue v_t_lastValue v_t_waiting v_t_depth v_t_acts v_t_isWinter v_t_learntNow v_t_forgottenNow v_t_heardMany v_t_its0 v_t_hasImage v_t_imageActs v_t_imageHeard r_t_tape) := hD
  have h := Option.some.inj h
  obtain ⟨w0, h⟩ := Prod.mk.inj h
  obtain ⟨w1, h⟩ := Prod.mk.inj h
  obtain ⟨w2, h⟩ := Prod.mk.inj h
  obtain ⟨w3, h⟩ := Prod.mk.inj h
  obtain ⟨w4, h⟩ := Prod.mk.inj h
  obtain ⟨w5, h⟩ := Prod.mk.inj h
  subst h
  subst w0
  subst w1
  subst w2
  subst w3
  subst w4
  subst w5
  exact hret _ _ _ _ hP hS dX12_goes_344
def f_X12_goes_50 (v_t_long1 : Int32) (v_t_next0 : Int32) (r_t_tape : Nat → Int32) : Option (Int32 × Int32 × Int32 × Int32 × Int32 × Int32 × Int64) :=
  gs_b1 (f_X12_byteAt v_t_next0 v_t_long1 r_t_tape) fun r6 =>
  if v_t_next0 < v_t_long1 then
    gs_b1 (f_X12_isLetter r6) fun r8 =>
    if r8 = 0 then
      gs_b1 (f_X12_isDigit r6) fun r10 =>
      if r10 = 0 then
        if r6 = 59 then
          f_X12_goes_323 (v_t_next0 + 1) v_t_next0 0 r6 0
        else
          if r6 = 40 then
            f_X12_goes_323 (v_t_next0 + 1) v_t_next0 0 r6 0
          else
            if r6 = 41 then
              f_X12_goes_323 (v_t_next0 + 1) v_t_next0 0 r6 0
            else
              if r6 = 43 then
                f_X12_goes_323 (v_t_next0 + 1) v_t_next0 0 r6 0
              else
                if r6 = 45 then
                  f_X12_goes_323 (v_t_next0 + 1) v_t_next0 0 r6 0
                else
                  if r6 = 42 then
                    f_X12_goes_323 (v_t_next0 + 1) v_t_next0 0 r6 0
                  else
                    if r6 = 47 then
                      f_X12_goes_323 (v_t_next0 + 1) v_t_next0 0 r6 0
                    else
                      if r6 = 60 then
                        f_X12_goes_323 (v_t_next0 + 1) v_t_next0 0 r6 0
                      else
                        if r6 = 61 then
                          f_X12_goes_323 (v_t_next0 + 1) v_t_next0 0 r6 0
                        else
                          some (v_t_next0 + 1, 4, v_t_next0, (v_t_next0 + 1) - v_t_next0, 0, r6, 0)
      else
        gs_it (fun _ _ => none) (f_X12_goes_187 v_t_long1 v_t_next0 r6 0 r_t_tape (fun (v_t_next0' : Int32) (v_t_value' : Int32) => f_X12_goes_250 v_t_next0' v_t_next0 v_t_value' r6 0)) gs_fuel v_t_next0 0
    else
      gs_it (fun _ _ => none) (f_X12_goes_108 v_t_long1 v_t_next0 0 r6 r_t_tape (fun (v_t_next0' : Int32) (v_t_word' : Int64) => f_X12_goes_172 v_t_next0' v_t_next0 0 r6 v_t_word')) gs_fuel v_t_next0 0
  else
    some (v_t_next0, 0, v_t_next0, v_t_next0 - v_t_next0, 0, r6, 0)
set_option maxHeartbeats 4000000 in
set_option maxRecDepth 100000 in
theorem t_X12_goes_50 {p : Program} {l : Launch} {e : Env} {s : State} {m : MethodId} {args : Array Value} {below : List Frame} {meth : Method} {c : Code} {Q : State → Prop} {E : gs_E} {A : Nat → Prop} {a_t a_t_tape a_t_songLong a_t_firstNote a_t_wit a_t_code a_t_refused a_t_newSongLong a_t_newFirstNote a_t_newWit a_t_newRow a_t_readCode a_t_waits a_t_tested a_t_isTold a_t_rows a_t_ahead a_t_told a_t_pile a_t_common a_t_mostOf a_t_likes a_t_heard a_t_soon a_t_soonAll a_t_imageRow a_t_imageAhead a_t_imageHears : Nat} {o_t_next0 : Int32} {o_t_sort : Int32} {o_t_place : Int32} {o_t_long0 : Int32} {o_t_value : Int32} {o_t_sign : Int32} {o_t_word : Int64} (X0 : gs_X wsX12_goes cX12_goes RX12 2 none p s m args meth c) (hk : gs_K E s) {v_t_thrown : Int32} {v_t_songs : Int32} {v_t_people : Int32} {v_t_forgetsAt : Int32} {v_t_fillsAt : Int32} {v_t_taped : Int32} {v_t_faultKind : Int32} {v_t_faultPlace : Int32} {v_t_long1 : Int32} {v_t_next0 : Int32} {v_t_sort : Int32} {v_t_place : Int32} {v_t_long0 : Int32} {v_t_value : Int32} {v_t_sign : Int32} {v_t_word : Int64} {v_t_newSongs : Int32} {v_t_newPeople : Int32} {v_t_newForgetsAt : Int32} {v_t_newFillsAt : Int32} {v_t_top : Int32} {v_t_firstValue : Int32} {v_t_lastValue : Int32} {v_t_waiting : Int32} {v_t_depth : Int32} {v_t_acts : Int32} {v_t_isWinter : Int32} {v_t_learntNow : Int32} {v_t_forgottenNow : Int32} {v_t_heardMany : Int32} {v_t_its0 : Int32} {v_t_hasImage : Int32} {v_t_imageActs : Int32} {v_t_imageHeard : Int32} {r_t_tape : Nat → Int32} (hret : ∀ (H : Heap) (locs : List Loc) (pc : Nat) (ls : Array Slot), va_P E.1 vwCl (w_X12_goes E a_t a_t_tape a_t_songLong a_t_firstNote a_t_wit a_t_code a_t_refused a_t_newSongLong a_t_newFirstNote a_t_newWit a_t_newRow a_t_readCode a_t_waits a_t_tested a_t_isTold a_t_rows a_t_ahead a_t_told a_t_pile a_t_common a_t_mostOf a_t_likes a_t_heard a_t_soon a_t_soonAll a_t_imageRow a_t_imageAhead a_t_imageHears v_t_thrown v_t_songs v_t_people v_t_forgetsAt v_t_fillsAt v_t_taped v_t_faultKind v_t_faultPlace v_t_long1 o_t_next0 o_t_sort o_t_place o_t_long0 o_t_value o_t_sign o_t_word v_t_newSongs v_t_newPeople v_t_newForgetsAt v_t_newFillsAt v_t_top v_t_firstValue v_t_lastValue v_t_waiting v_t_depth v_t_acts v_t_isWinter v_t_learntNow v_t_forgottenNow v_t_heardMany v_t_its0 v_t_hasImage v_t_imageActs v_t_imageHeard r_t_tape) H → va_S A s.heap H locs → decode cX12_goes pc = .ok (.return_, 1) → W p l e rm_X12_goes s m args below meth c H locs 0 0 Q (F0 m pc ls [])) (h : f_X12_goes_50 v_t_long1 v_t_next0 r_t_tape = some (o_t_next0, o_t_sort, o_t_place, o_t_long0, o_t_value, o_t_sign, o_t_word)) : S_X12_goes_50 p l e s m args below meth c Q a_t a_t_tape a_t_songLong a_t_firstNote a_t_wit a_t_code a_t_refused a_t_newSongLong a_t_newFirstNote a_t_newWit a_t_newRow a_t_readCode a_t_waits a_t_tested a_t_isTold a_t_rows a_t_ahead a_t_told a_t_pile a_t_common a_t_mostOf a_t_likes a_t_heard a_t_soon a_t_soonAll a_t_imageRow a_t_imageAhead a_t_imageHears E A v_t_thrown v_t_songs v_t_people v_t_forgetsAt v_t_fillsAt v_t_taped v_t_faultKind v_t_faultPlace v_t_long1 v_t_next0 v_t_sort v_t_place v_t_long0 v_t_value v_t_sign v_t_word v_t_newSongs v_t_newPeople v_t_newForgetsAt v_t_newFillsAt v_t_top v_t_firstValue v_t_lastValue v_t_waiting v_t_depth v_t_acts v_t_isWinter v_t_learntNow v_t_forgottenNow v_t_heardMany v_t_its0 v_t_hasImage v_t_imageActs v_t_imageHeard r_t_tape := by
  obtain ⟨hx, hb, hml, hown, hts, hr, hlk⟩ := id X0
  intro H locs ls hP hD hS hl
  unfold f_X12_goes_50 at h
  refine lv_aload_n hx hb dX12_goes_50 rfl (lv_at hl 0 rfl) ?_
  refine lv_aload_n hx hb dX12_goes_51 rfl (lv_at hl 0 rfl) ?_
  refine va_get (D := E.1) (ci := 12) (v := .int v_t_next0) (C := RX12) (T := TX12) (N := 61) hx hb hts (fun _ h => (List.mem_cons_of_mem _ (List.mem_append_right _ h))) hown hk.1 hP 0 rfl rfl 15 (by decide) (hts (.fieldLink RX12 115 "GapSongsModel" "next0" "I") (List.mem_cons_of_mem _ (List.mem_append_left _ (List.mem_of_getElem? (i := 0) rfl)))) (fun _ h9 => h9) rfl dX12_goes_52 ?_
  refine va_put (D := E.1) (ci := 12) (v := .int v_t_next0) (ty := .int) (C := RX12) (T := TX12) (N := 61) hx hb hts (fun _ h => (List.mem_cons_of_mem _ (List.mem_append_right _ h))) tyX12 tyX12_ok nmX12 hown hk.1 hP hD hS 0 rfl rfl 17 (by decide) (hts (.fieldLink RX12 122 "GapSongsModel" "place" "I") (List.mem_cons_of_mem _ (List.mem_append_left _ (List.mem_of_getElem? (i := 2) rfl)))) (fun _ h9 => h9) rfl (by decide +kernel) rfl rfl (Nat.le_of_ble_eq_true rfl) dX12_goes_55 (fun H locs hP hD hS => ?_)
  have hP : va_P E.1 vwCl (w_X12_goes E a_t a_t_tape a_t_songLong a_t_firstNote a_t_wit a_t_code a_t_refused a_t_newSongLong a_t_newFirstNote a_t_newWit a_t_newRow a_t_readCode a_t_waits a_t_tested a_t_isTold a_t_rows a_t_ahead a_t_told a_t_pile a_t_common a_t_mostOf a_t_likes a_t_heard a_t_soon a_t_soonAll a_t_imageRow a_t_imageAhead a_t_imageHears v_t_thrown v_t_songs v_t_people v_t_forgetsAt v_t_fillsAt v_t_taped v_t_faultKind v_t_faultPlace v_t_long1 v_t_next0 v_t_sort v_t_next0 v_t_long0 v_t_value v_t_sign v_t_word v_t_newSongs v_t_newPeople v_t_newForgetsAt v_t_newFillsAt v_t_top v_t_firstValue v_t_lastValue v_t_waiting v_t_depth v_t_acts v_t_isWinter v_t_learntNow v_t_forgottenNow v_t_heardMany v_t_its0 v_t_hasImage v_t_imageActs v_t_imageHeard r_t_tape) H := hP
  have hD : va_D A (w_X12_goes E a_t a_t_tape a_t_songLong a_t_firstNote a_t_wit a_t_code a_t_refused a_t_newSongLong a_t_newFirstNote a_t_newWit a_t_newRow a_t_readCode a_t_waits a_t_tested a_t_isTold a_t_rows a_t_ahead a_t_told a_t_pile a_t_common a_t_mostOf a_t_likes a_t_heard a_t_soon a_t_soonAll a_t_imageRow a_t_imageAhead a_t_imageHears v_t_thrown v_t_songs v_t_people v_t_forgetsAt v_t_fillsAt v_t_taped v_t_faultKind v_t_faultPlace v_t_long1 v_t_next0 v_t_sort v_t_next0 v_t_long0 v_t_value v_t_sign v_t_word v_t_newSongs v_t_newPeople v_t_newForgetsAt v_t_newFillsAt v_t_top v_t_firstValue v_t_lastValue v_t_waiting v_t_depth v_t_acts v_t_isWinter v_t_learntNow v_t_forgottenNow v_t_heardMany v_t_its0 v_t_hasImage v_t_imageActs v_t_imageHeard r_t_tape) := hD
  refine lv_aload_n hx hb dX12_goes_58 rfl (lv_at hl 0 rfl) ?_
  refine lv_lconst (v := 0) hx hb dX12_goes_59 (by decide) ?_
  refine va_put (D := E.1) (ci := 12) (v := .long 0) (ty := .long) (C := RX12) (T := TX12) (N := 61) hx hb hts (fun _ h => (List.mem_cons_of_mem _ (List.mem_append_right _ h))) tyX12 tyX12_ok nmX12 hown hk.1 hP hD hS 0 rfl rfl 21 (by decide) (hts (.fieldLink RX12 125 "GapSongsModel" "word" "J") (List.mem_cons_of_mem _ (List.mem_append_left _ (List.mem_of_getElem? (i := 3) rfl)))) (fun _ h9 => h9) rfl (by decide +kernel) rfl rfl (Nat.le_of_ble_eq_true rfl) dX12_goes_60 (fun H locs hP hD hS => ?_)
  have hP : va_P E.1 vwCl (w_X12_goes E a_t a_t_tape a_t_songLong a_t_firstNote a_t_wit a_t_code a_t_refused a_t_newSongLong a_t_newFirstNote a_t_newWit a_t_newRow a_t_readCode a_t_waits a_t_tested a_t_isTold a_t_rows a_t_ahead a_t_told a_t_pile a_t_common a_t_mostOf a_t_likes a_t_heard a_t_soon a_t_soonAll a_t_imageRow a_t_imageAhead a_t_imageHears v_t_thrown v_t_songs v_t_people v_t_forgetsAt v_t_fillsAt v_t_taped v_t_faultKind v_t_faultPlace v_t_long1 v_t_next0 v_t_sort v_t_next0 v_t_long0 v_t_value v_t_sign 0 v_t_newSongs v_t_newPeople v_t_newForgetsAt v_t_newFillsAt v_t_top v_t_firstValue v_t_lastValue v_t_waiting v_t_depth v_t_acts v_t_isWinter v_t_learntNow v_t_forgottenNow v_t_heardMany v_t_its0 v_t_hasImage v_t_imageActs v_t_imageHeard r_t_tape) H := hP
  have hD : va_D A (w_X12_goes E a_t a_t_tape a_t_songLong a_t_firstNote a_t_wit a_t_code a_t_refused a_t_newSongLong a_t_newFirstNote a_t_newWit a_t_newRow a_t_readCode a_t_waits a_t_tested a_t_isTold a_t_rows a_t_ahead a_t_told a_t_pile a_t_common a_t_mostOf a_t_likes a_t_heard a_t_soon a_t_soonAll a_t_imageRow a_t_imageAhead a_t_imageHears v_t_thrown v_t_songs v_t_people v_t_forgetsAt v_t_fillsAt v_t_taped v_t_faultKind v_t_faultPlace v_t_long1 v_t_next0 v_t_sort v_t_next0 v_t_long0 v_t_value v_t_sign 0 v_t_newSongs v_t_newPeople v_t_newForgetsAt v_t_newFillsAt v_t_top v_t_firstValue v_t_lastValue v_t_waiting v_t_depth v_t_acts v_t_isWinter v_t_learntNow v_t_forgottenNow v_t_heardMany v_t_its0 v_t_hasImage v_t_imageActs v_t_imageHeard r_t_tape) := hD
  refine lv_aload_n hx hb dX12_goes_63 rfl (lv_at hl 0 rfl) ?_
  refine lv_iconst (v := 0) hx hb dX12_goes_64 (by decide) ?_
  refine va_put (D := E.1) (ci := 12) (v := .int 0) (ty := .int) (C := RX12) (T := TX12) (N := 61) hx hb hts (fun _ h => (List.mem_cons_of_mem _ (List.mem_append_right _ h))) tyX12 tyX12_ok nmX12 hown hk.1 hP hD hS 0 rfl rfl 19 (by decide) (hts (.fieldLink RX12 129 "GapSongsModel" "value" "I") (List.mem_cons_of_mem _ (List.mem_append_left _ (List.mem_of_getElem? (i := 4) rfl)))) (fun _ h9 => h9) rfl (by decide +kernel) rfl rfl (Nat.le_of_ble_eq_true rfl) dX12_goes_65 (fun H locs hP hD hS => ?_)
  have hP : va_P E.1 vwCl (w_X12_goes E a_t a_t_tape a_t_songLong a_t_firstNote a_t_wit a_t_code a_t_refused a_t_newSongLong a_t_newFirstNote a_t_newWit a_t_newRow a_t_readCode a_t_waits a_t_tested a_t_isTold a_t_rows a_t_ahead a_t_told a_t_pile a_t_common a_t_mostOf a_t_likes a_t_heard a_t_soon a_t_soonAll a_t_imageRow a_t_imageAhead a_t_imageHears v_t_thrown v_t_songs v_t_people v_t_forgetsAt v_t_fillsAt v_t_taped v_t_faultKind v_t_faultPlace v_t_long1 v_t_next0 v_t_sort v_t_next0 v_t_long0 0 v_t_sign 0 v_t_newSongs v_t_newPeople v_t_newForgetsAt v_t_newFillsAt v_t_top v_t_firstValue v_t_lastValue v_t_waiting v_t_depth v_t_acts v_t_isWinter v_t_learntNow v_t_forgottenNow v_t_heardMany v_t_its0 v_t_hasImage v_t_imageActs v_t_imageHeard r_t_tape) H := hP
  have hD : va_D A (w_X12_goes E a_t a_t_tape a_t_songLong a_t_firstNote a_t_wit a_t_code a_t_refused a_t_newSongLong a_t_newFirstNote a_t_newWit a_t_newRow a_t_readCode a_t_waits a_t_tested a_t_isTold a_t_rows a_t_ahead a_t_told a_t_pile a_t_common a_t_mostOf a_t_likes a_t_heard a_t_soon a_t_soonAll a_t_imageRow a_t_imageAhead a_t_imageHears v_t_thrown v_t_songs v_t_people v_t_forgetsAt v_t_fillsAt v_t_taped v_t_faultKind v_t_faultPlace v_t_long1 v_t_next0 v_t_sort v_t_next0 v_t_long0 0 v_t_sign 0 v_t_newSongs v_t_newPeople v_t_newForgetsAt v_t_newFillsAt v_t_top v_t_firstValue v_t_lastValue v_t_waiting v_t_depth v_t_acts v_t_isWinter v_t_learntNow v_t_forgottenNow v_t_heardMany v_t_its0 v_t_hasImage v_t_imageActs v_t_imageHeard r_t_tape) := hD
  refine lv_aload_n hx hb dX12_goes_68 rfl (lv_at hl 0 rfl) ?_
  refine lv_aload_n hx hb dX12_goes_69 rfl (lv_at hl 0 rfl) ?_
  refine va_get (D := E.1) (ci := 12) (v := .int v_t_next0) (C := RX12) (T := TX12) (N := 61) hx hb hts (fun _ h => (List.mem_cons_of_mem _ (List.mem_append_right _ h))) hown hk.1 hP 0 rfl rfl 15 (by decide) (hts (.fieldLink RX12 115 "GapSongsModel" "next0" "I") (List.mem_cons_of_mem _ (List.mem_append_left _ (List.mem_of_getElem? (i := 0) rfl)))) (fun _ h9 => h9) rfl dX12_goes_70 ?_
  obtain ⟨r6, hz6, h⟩ := gs_b1_e h
  refine gs_backRi (va_runV (As := [.int v_t_next0]) (rest := []) ⟨hx, hb, hml, hown, hts⟩ (c_X12_byteAt l E a_t a_t_tape a_t_songLong a_t_firstNote a_t_wit a_t_code a_t_refused a_t_newSongLong a_t_newFirstNote a_t_newWit a_t_newRow a_t_readCode a_t_waits a_t_tested a_t_isTold a_t_rows a_t_ahead a_t_told a_t_pile a_t_common a_t_mostOf a_t_likes a_t_heard a_t_soon a_t_soonAll a_t_imageRow a_t_imageAhead a_t_imageHears v_t_thrown v_t_songs v_t_people v_t_forgetsAt v_t_fillsAt v_t_taped v_t_faultKind v_t_faultPlace v_t_long1 v_t_next0 v_t_sort v_t_next0 v_t_long0 0 v_t_sign 0 v_t_newSongs v_t_newPeople v_t_newForgetsAt v_t_newFillsAt v_t_top v_t_firstValue v_t_lastValue v_t_waiting v_t_depth v_t_acts v_t_isWinter v_t_learntNow v_t_forgottenNow v_t_heardMany v_t_its0 v_t_hasImage v_t_imageActs v_t_imageHeard r_t_tape v_t_next0 r6 hz6) (cwV 1 hts gX12_goes_X12_byteAt rfl rfl rfl (by decide +kernel) ⟨Nat.le_of_ble_eq_true rfl, Nat.le_of_ble_eq_true rfl⟩) (gs_preV (ci := 12) hk hP hD (is := [0, 1]) rfl rfl rfl rfl) rfl rfl hl.1 rfl (lv_room (Nat.le_of_ble_eq_true rfl)) dX12_goes_73 ⟨Nat.zero_le _, Nat.zero_le _⟩) ?_
  refine lv_istore_n (lv' := [(1, .int r6), (0, .ref a_t)]) hx hb dX12_goes_76 rfl hl (by decide) rfl (fun ls hl => ?_)
  refine lv_aload_n hx hb dX12_goes_77 rfl (lv_at hl 1 rfl) ?_
  refine lv_iload_n hx hb dX12_goes_78 rfl (lv_at hl 0 rfl) ?_
  refine va_put (D := E.1) (ci := 12) (v := .int r6) (ty := .int) (C := RX12) (T := TX12) (N := 61) hx hb hts (fun _ h => (List.mem_cons_of_mem _ (List.mem_append_right _ h))) tyX12 tyX12_ok nmX12 hown hk.1 hP hD hS 0 rfl rfl 20 (by decide) (hts (.fieldLink RX12 132 "GapSongsModel" "sign" "I") (List.mem_cons_of_mem _ (List.mem_append_left _ (List.mem_of_getElem? (i := 5) rfl)))) (fun _ h9 => h9) rfl (by decide +kernel) rfl rfl (Nat.le_of_ble_eq_true rfl) dX12_goes_79 (fun H locs hP hD hS => ?_)
  have hP : va_P E.1 vwCl (w_X12_goes E a_t a_t_tape a_t_songLong a_t_firstNote a_t_wit a_t_code a_t_refused a_t_newSongLong a_t_newFirstNote a_t_newWit a_t_newRow a_t_readCode a_t_waits a_t_tested a_t_isTold a_t_rows a_t_ahead a_t_told a_t_pile a_t_common a_t_mostOf a_t_likes a_t_heard a_t_soon a_t_soonAll a_t_imageRow a_t_imageAhead a_t_imageHears v_t_thrown v_t_songs v_t_people v_t_forgetsAt v_t_fillsAt v_t_taped v_t_faultKind v_t_faultPlace v_t_long1 v_t_next0 v_t_sort v_t_next0 v_t_long0 0 r6 0 v_t_newSongs v_t_newPeople v_t_newForgetsAt v_t_newFillsAt v_t_top v_t_firstValue v_t_lastValue v_t_waiting v_t_depth v_t_acts v_t_isWinter v_t_learntNow v_t_forgottenNow v_t_heardMany v_t_its0 v_t_hasImage v_t_imageActs v_t_imageHeard r_t_tape) H := hP
  have hD : va_D A (w_X12_goes E a_t a_t_tape a_t_songLong a_t_firstNote a_t_wit a_t_code a_t_refused a_t_newSongLong a_t_newFirstNote a_t_newWit a_t_newRow a_t_readCode a_t_waits a_t_tested a_t_isTold a_t_rows a_t_ahead a_t_told a_t_pile a_t_common a_t_mostOf a_t_likes a_t_heard a_t_soon a_t_soonAll a_t_imageRow a_t_imageAhead a_t_imageHears v_t_thrown v_t_songs v_t_people v_t_forgetsAt v_t_fillsAt v_t_taped v_t_faultKind v_t_faultPlace v_t_long1 v_t_next0 v_t_sort v_t_next0 v_t_long0 0 r6 0 v_t_newSongs v_t_newPeople v_t_newForgetsAt v_t_newFillsAt v_t_top v_t_firstValue v_t_lastValue v_t_waiting v_t_depth v_t_acts v_t_isWinter v_t_learntNow v_t_forgottenNow v_t_heardMany v_t_its0 v_t_hasImage v_t_imageActs v_t_imageHeard r_t_tape) := hD
  refine lv_aload_n hx hb dX12_goes_82 rfl (lv_at hl 1 rfl) ?_
  refine va_get (D := E.1) (ci := 12) (v := .int v_t_next0) (C := RX12) (T := TX12) (N := 61) hx hb hts (fun _ h => (List.mem_cons_of_mem _ (List.mem_append_right _ h))) hown hk.1 hP 0 rfl rfl 15 (by decide) (hts (.fieldLink RX12 115 "GapSongsModel" "next0" "I") (List.mem_cons_of_mem _ (List.mem_append_left _ (List.mem_of_getElem? (i := 0) rfl)))) (fun _ h9 => h9) rfl dX12_goes_83 ?_
  refine lv_aload_n hx hb dX12_goes_86 rfl (lv_at hl 1 rfl) ?_
  refine va_get (D := E.1) (ci := 12) (v := .int v_t_long1) (C := RX12) (T := TX12) (N := 61) hx hb hts (fun _ h => (List.mem_cons_of_mem _ (List.mem_append_right _ h))) hown hk.1 hP 0 rfl rfl 14 (by decide) (hts (.fieldLink RX12 112 "GapSongsModel" "long1" "I") (List.mem_cons_of_mem _ (List.mem_append_left _ (List.mem_of_getElem? (i := 1) rfl)))) (fun _ h9 => h9) rfl dX12_goes_87 ?_
  refine lv_icmp_lt (tgt := 101) hx hb dX12_goes_90 (by decide) (fun c7 => ?_) (fun c7 => ?_)
  · replace h := gs_ift c7 h
    refine lv_iload_n hx hb dX12_goes_101 rfl (lv_at hl 0 rfl) ?_
    obtain ⟨r8, hz8, h⟩ := gs_b1_e h
    refine gs_backRi (va_runS (As := [.int r6]) (rest := []) ⟨hx, hb, hml, hown, hts⟩ (c_X12_isLetter l E r6 r8 hz8) (va_cwS 1 hts gX12_goes_X12_isLetter rfl rfl rfl (by decide +kernel) ⟨Nat.le_of_ble_eq_true rfl, Nat.le_of_ble_eq_true rfl⟩) (gs_pre hk hP hD (is := []) rfl rfl) rfl rfl hl.1 rfl (lv_room (Nat.le_of_ble_eq_true rfl)) dX12_goes_102 ⟨Nat.zero_le _, Nat.zero_le _⟩) ?_
    refine lv_if_eq (tgt := 180) hx hb dX12_goes_105 (by decide) (fun c9 => ?_) (fun c9 => ?_)
    · replace h := gs_ift c9 h
      refine lv_iload_n hx hb dX12_goes_180 rfl (lv_at hl 0 rfl) ?_
      obtain ⟨r10, hz10, h⟩ := gs_b1_e h
      refine gs_backRi (va_runS (As := [.int r6]) (rest := []) ⟨hx, hb, hml, hown, hts⟩ (c_X12_isDigit l E r6 r10 hz10) (va_cwS 1 hts gX12_goes_X12_isDigit rfl rfl rfl (by decide +kernel) ⟨Nat.le_of_ble_eq_true rfl, Nat.le_of_ble_eq_true rfl⟩) (gs_pre hk hP hD (is := []) rfl rfl) rfl rfl hl.1 rfl (lv_room (Nat.le_of_ble_eq_true rfl)) dX12_goes_181 ⟨Nat.zero_le _, Nat.zero_le _⟩) ?_
      refine lv_if_eq (tgt := 258) hx hb dX12_goes_184 (by decide) (fun c11 => ?_) (fun c11 => ?_)
      · replace h := gs_ift c11 h
        refine lv_aload_n hx hb dX12_goes_258 rfl (lv_at hl 1 rfl) ?_
        refine lv_dup hx hb dX12_goes_259 rfl ?_
        refine va_get (D := E.1) (ci := 12) (v := .int v_t_next0) (C := RX12) (T := TX12) (N := 61) hx hb hts (fun _ h => (List.mem_cons_of_mem _ (List.mem_append_right _ h))) hown hk.1 hP 0 rfl rfl 15 (by decide) (hts (.fieldLink RX12 115 "GapSongsModel" "next0" "I") (List.mem_cons_of_mem _ (List.mem_append_left _ (List.mem_of_getElem? (i := 0) rfl)))) (fun _ h9 => h9) rfl dX12_goes_260 ?_
        refine lv_iconst (v := 1) hx hb dX12_goes_263 (by decide) ?_
        refine lv_iadd hx hb dX12_goes_264 ?_
        refine va_put (D := E.1) (ci := 12) (v := .int (v_t_next0 + 1)) (ty := .int) (C := RX12) (T := TX12) (N := 61) hx hb hts (fun _ h => (List.mem_cons_of_mem _ (List.mem_append_right _ h))) tyX12 tyX12_ok nmX12 hown hk.1 hP hD hS 0 rfl rfl 15 (by decide) (hts (.fieldLink RX12 115 "GapSongsModel" "next0" "I") (List.mem_cons_of_mem _ (List.mem_append_left _ (List.mem_of_getElem? (i := 0) rfl)))) (fun _ h9 => h9) rfl (by decide +kernel) rfl rfl (Nat.le_of_ble_eq_true rfl) dX12_goes_265 (fun H locs hP hD hS => ?_)
        have hP : va_P E.1 vwCl (w_X12_goes E a_t a_t_tape a_t_songLong a_t_firstNote a_t_wit a_t_code a_t_refused a_t_newSongLong a_t_newFirstNote a_t_newWit a_t_newRow a_t_readCode a_t_waits a_t_tested a_t_isTold a_t_rows a_t_ahead a_t_told a_t_pile a_t_common a_t_mostOf a_t_likes a_t_heard a_t_soon a_t_soonAll a_t_imageRow a_t_imageAhead a_t_imageHears v_t_thrown v_t_songs v_t_people v_t_forgetsAt v_t_fillsAt v_t_taped v_t_faultKind v_t_faultPlace v_t_long1 (v_t_next0 + 1) v_t_sort v_t_next0 v_t_long0 0 r6 0 v_t_newSongs v_t_newPeople v_t_newForgetsAt v_t_newFillsAt v_t_top v_t_firstValue v_t_lastValue v_t_waiting v_t_depth v_t_acts v_t_isWinter v_t_learntNow v_t_forgottenNow v_t_heardMany v_t_its0 v_t_hasImage v_t_imageActs v_t_imageHeard r_t_tape) H := hP
        have hD : va_D A (w_X12_goes E a_t a_t_tape a_t_songLong a_t_firstNote a_t_wit a_t_code a_t_refused a_t_newSongLong a_t_newFirstNote a_t_newWit a_t_newRow a_t_readCode a_t_waits a_t_tested a_t_isTold a_t_rows a_t_ahead a_t_told a_t_pile a_t_common a_t_mostOf a_t_likes a_t_heard a_t_soon a_t_soonAll a_t_imageRow a_t_imageAhead a_t_imageHears v_t_thrown v_t_songs v_t_people v_t_forgetsAt v_t_fillsAt v_t_taped v_t_faultKind v_t_faultPlace v_t_long1 (v_t_next0 + 1) v_t_sort v_t_next0 v_t_long0 0 r6 0 v_t_newSongs v_t_newPeople v_t_newForgetsAt v_t_newFillsAt v_t_top v_t_firstValue v_t_lastValue v_t_waiting v_t_depth v_t_acts v_t_isWinter v_t_learntNow v_t_forgottenNow v_t_heardMany v_t_its0 v_t_hasImage v_t_imageActs v_t_imageHeard r_t_tape) := hD
        refine lv_aload_n hx hb dX12_goes_268 rfl (lv_at hl 1 rfl) ?_
        refine lv_iload_n hx hb dX12_goes_269 rfl (lv_at hl 0 rfl) ?_
        refine lv_bipush (v := 59) hx hb dX12_goes_270 (by decide) ?_
        refine lv_icmp_eq (tgt := 323) hx hb dX12_goes_272 (by decide) (fun c12 => ?_) (fun c12 => ?_)
        · replace h := gs_ift c12 h
          exact t_X12_goes_323 X0 hk  hret  (h := h) _ _ _ hP hD hS (lv_sub hl [1] rfl)
        · replace h := gs_iff c12 h
          refine lv_iload_n hx hb dX12_goes_275 rfl (lv_at hl 0 rfl) ?_
          refine lv_bipush (v := 40) hx hb dX12_goes_276 (by decide) ?_
          refine lv_icmp_eq (tgt := 323) hx hb dX12_goes_278 (by decide) (fun c13 => ?_) (fun c13 => ?_)
          · replace h := gs_ift c13 h
            exact t_X12_goes_323 X0 hk  hret  (h := h) _ _ _ hP hD hS (lv_sub hl [1] rfl)
          · replace h := gs_iff c13 h
            refine lv_iload_n hx hb dX12_goes_281 rfl (lv_at hl 0 rfl) ?_
            refine lv_bipush (v := 41) hx hb dX12_goes_282 (by decide) ?_
            refine lv_icmp_eq (tgt := 323) hx hb dX12_goes_284 (by decide) (fun c14 => ?_) (fun c14 => ?_)
            · replace h := gs_ift c14 h
              exact t_X12_goes_323 X0 hk  hret  (h := h) _ _ _ hP hD hS (lv_sub hl [1] rfl)
            · replace h := gs_iff c14 h
              refine lv_iload_n hx hb dX12_goes_287 rfl (lv_at hl 0 rfl) ?_
              refine lv_bipush (v := 43) hx hb dX12_goes_288 (by decide) ?_
              refine lv_icmp_eq (tgt := 323) hx hb dX12_goes_290 (by decide) (fun c15 => ?_) (fun c15 => ?_)
              · replace h := gs_ift c15 h
                exact t_X12_goes_323 X0 hk  hret  (h := h) _ _ _ hP hD hS (lv_sub hl [1] rfl)
              · replace h := gs_iff c15 h
                refine lv_iload_n hx hb dX12_goes_293 rfl (lv_at hl 0 rfl) ?_
                refine lv_bipush (v := 45) hx hb dX12_goes_294 (by decide) ?_
                refine lv_icmp_eq (tgt := 323) hx hb dX12_goes_296 (by decide) (fun c16 => ?_) (fun c16 => ?_)
                · replace h := gs_ift c16 h
                  exact t_X12_goes_323 X0 hk  hret  (h := h) _ _ _ hP hD hS (lv_sub hl [1] rfl)
                · replace h := gs_iff c16 h
                  refine lv_iload_n hx hb dX12_goes_299 rfl (lv_at hl 0 rfl) ?_
                  refine lv_bipush (v := 42) hx hb dX12_goes_300 (by decide) ?_
                  refine lv_icmp_eq (tgt := 323) hx hb dX12_goes_302 (by decide) (fun c17 => ?_) (fun c17 => ?_)
                  · replace h := gs_ift c17 h
                    exact t_X12_goes_323 X0 hk  hret  (h := h) _ _ _ hP hD hS (lv_sub hl [1] rfl)
                  · replace h := gs_iff c17 h
                    refine lv_iload_n hx hb dX12_goes_305 rfl (lv_at hl 0 rfl) ?_
                    refine lv_bipush (v := 47) hx hb dX12_goes_306 (by decide) ?_
                    refine lv_icmp_eq (tgt := 323) hx hb dX12_goes_308 (by decide) (fun c18 => ?_) (fun c18 => ?_)
                    · replace h := gs_ift c18 h
                      exact t_X12_goes_323 X0 hk  hret  (h := h) _ _ _ hP hD hS (lv_sub hl [1] rfl)
                    · replace h := gs_iff c18 h
                      refine lv_iload_n hx hb dX12_goes_311 rfl (lv_at hl 0 rfl) ?_
                      refine lv_bipush (v := 60) hx hb dX12_goes_312 (by decide) ?_
                      refine lv_icmp_eq (tgt := 323) hx hb dX12_goes_314 (by decide) (fun c19 => ?_) (fun c19 => ?_)
                      · replace h := gs_ift c19 h
                        exact t_X12_goes_323 X0 hk  hret  (h := h) _ _ _ hP hD hS (lv_sub hl [1] rfl)
                      · replace h := gs_iff c19 h
                        refine lv_iload_n hx hb dX12_goes_317 rfl (lv_at hl 0 rfl) ?_
                        refine lv_bipush (v := 61) hx hb dX12_goes_318 (by decide) ?_
                        refine lv_icmp_ne (tgt := 327) hx hb dX12_goes_320 (by decide) (fun c20 => ?_) (fun c20 => ?_)
                        · replace h := gs_iff c20 h
                          refine lv_iconst (v := 4) hx hb dX12_goes_327 (by decide) ?_
                          refine va_put (D := E.1) (ci := 12) (v := .int 4) (ty := .int) (C := RX12) (T := TX12) (N := 61) hx hb hts (fun _ h => (List.mem_cons_of_mem _ (List.mem_append_right _ h))) tyX12 tyX12_ok nmX12 hown hk.1 hP hD hS 0 rfl rfl 16 (by decide) (hts (.fieldLink RX12 135 "GapSongsModel" "sort" "I") (List.mem_cons_of_mem _ (List.mem_append_left _ (List.mem_of_getElem? (i := 6) rfl)))) (fun _ h9 => h9) rfl (by decide +kernel) rfl rfl (Nat.le_of_ble_eq_true rfl) dX12_goes_328 (fun H locs hP hD hS => ?_)
                          have hP : va_P E.1 vwCl (w_X12_goes E a_t a_t_tape a_t_songLong a_t_firstNote a_t_wit a_t_code a_t_refused a_t_newSongLong a_t_newFirstNote a_t_newWit a_t_newRow a_t_readCode a_t_waits a_t_tested a_t_isTold a_t_rows a_t_ahead a_t_told a_t_pile a_t_common a_t_mostOf a_t_likes a_t_heard a_t_soon a_t_soonAll a_t_imageRow a_t_imageAhead a_t_imageHears v_t_thrown v_t_songs v_t_people v_t_forgetsAt v_t_fillsAt v_t_taped v_t_faultKind v_t_faultPlace v_t_long1 (v_t_next0 + 1) 4 v_t_next0 v_t_long0 0 r6 0 v_t_newSongs v_t_newPeople v_t_newForgetsAt v_t_newFillsAt v_t_top v_t_firstValue v_t_lastValue v_t_waiting v_t_depth v_t_acts v_t_isWinter v_t_learntNow v_t_forgottenNow v_t_heardMany v_t_its0 v_t_hasImage v_t_imageActs v_t_imageHeard r_t_tape) H := hP
                          have hD : va_D A (w_X12_goes E a_t a_t_tape a_t_songLong a_t_firstNote a_t_wit a_t_code a_t_refused a_t_newSongLong a_t_newFirstNote a_t_newWit a_t_newRow a_t_readCode a_t_waits a_t_tested a_t_isTold a_t_rows a_t_ahead a_t_told a_t_pile a_t_common a_t_mostOf a_t_likes a_t_heard a_t_soon a_t_soonAll a_t_imageRow a_t_imageAhead a_t_imageHears v_t_thrown v_t_songs v_t_people v_t_forgetsAt v_t_fillsAt v_t_taped v_t_faultKind v_t_faultPlace v_t_long1 (v_t_next0 + 1) 4 v_t_next0 v_t_long0 0 r6 0 v_t_newSongs v_t_newPeople v_t_newForgetsAt v_t_newFillsAt v_t_top v_t_firstValue v_t_lastValue v_t_waiting v_t_depth v_t_acts v_t_isWinter v_t_learntNow v_t_forgottenNow v_t_heardMany v_t_its0 v_t_hasImage v_t_imageActs v_t_imageHeard r_t_tape) := hD
                          refine lv_aload_n hx hb dX12_goes_331 rfl (lv_at hl 1 rfl) ?_
                          refine lv_aload_n hx hb dX12_goes_332 rfl (lv_at hl 1 rfl) ?_
                          refine va_get (D := E.1) (ci := 12) (v := .int (v_t_next0 + 1)) (C := RX12) (T := TX12) (N := 61) hx hb hts (fun _ h => (List.mem_cons_of_mem _ (List.mem_append_right _ h))) hown hk.1 hP 0 rfl rfl 15 (by decide) (hts (.fieldLink RX12 115 "GapSongsModel" "next0" "I") (List.mem_cons_of_mem _ (List.mem_append_left _ (List.mem_of_getElem? (i := 0) rfl)))) (fun _ h9 => h9) rfl dX12_goes_333 ?_
                          refine lv_aload_n hx hb dX12_goes_336 rfl (lv_at hl 1 rfl) ?_
                          refine va_get (D := E.1) (ci := 12) (v := .int v_t_next0) (C := RX12) (T := TX12) (N := 61) hx hb hts (fun _ h => (List.mem_cons_of_mem _ (List.mem_append_right _ h))) hown hk.1 hP 0 rfl rfl 17 (by decide) (hts (.fieldLink RX12 122 "GapSongsModel" "place" "I") (List.mem_cons_of_mem _ (List.mem_append_left _ (List.mem_of_getElem? (i := 2) rfl)))) (fun _ h9 => h9) rfl dX12_goes_337 ?_
                          refine lv_isub hx hb dX12_goes_340 ?_
                          refine va_put (D := E.1) (ci := 12) (v := .int ((v_t_next0 + 1) - v_t_next0)) (ty := .int) (C := RX12) (T := TX12) (N := 61) hx hb hts (fun _ h => (List.mem_cons_of_mem _ (List.mem_append_right _ h))) tyX12 tyX12_ok nmX12 hown hk.1 hP hD hS 0 rfl rfl 18 (by decide) (hts (.fieldLink RX12 145 "GapSongsModel" "long0" "I") (List.mem_cons_of_mem _ (List.mem_append_left _ (List.mem_of_getElem? (i := 7) rfl)))) (fun _ h9 => h9) rfl (by decide +kernel) rfl rfl (Nat.le_of_ble_eq_true rfl) dX12_goes_341 (fun H locs hP hD hS => ?_)
                          have hP : va_P E.1 vwCl (w_X12_goes E a_t a_t_tape a_t_songLong a_t_firstNote a_t_wit a_t_code a_t_refused a_t_newSongLong a_t_newFirstNote a_t_newWit a_t_newRow a_t_readCode a_t_waits a_t_tested a_t_isTold a_t_rows a_t_ahead a_t_told a_t_pile a_t_common a_t_mostOf a_t_likes a_t_heard a_t_soon a_t_soonAll a_t_imageRow a_t_imageAhead a_t_imageHears v_t_thrown v_t_songs v_t_people v_t_forgetsAt v_t_fillsAt v_t_taped v_t_faultKind v_t_faultPlace v_t_long1 (v_t_next0 + 1) 4 v_t_next0 ((v_t_next0 + 1) - v_t_next0) 0 r6 0 v_t_newSongs v_t_newPeople v_t_newForgetsAt v_t_newFillsAt v_t_top v_t_firstValue v_t_lastValue v_t_waiting v_t_depth v_t_acts v_t_isWinter v_t_learntNow v_t_forgottenNow v_t_heardMany v_t_its0 v_t_hasImage v_t_imageActs v_t_imageHeard r_t_tape) H := hP
                          have hD : va_D A (w_X12_goes E a_t a_t_tape a_t_songLong a_t_firstNote a_t_wit a_t_code a_t_refused a_t_newSongLong a_t_newFirstNote a_t_newWit a_t_newRow a_t_readCode a_t_waits a_t_tested a_t_isTold a_t_rows a_t_ahead a_t_told a_t_pile a_t_common a_t_mostOf a_t_likes a_t_heard a_t_soon a_t_soonAll a_t_imageRow a_t_imageAhead a_t_imageHears v_t_thrown v_t_songs v_t_people v_t_forgetsAt v_t_fillsAt v_t_taped v_t_faultKind v_t_faultPlace v_t_long1 (v_t_next0 + 1) 4 v_t_next0 ((v_t_next0 + 1) - v_t_next0) 0 r6 0 v_t_newSongs v_t_newPeople v_t_newForgetsAt v_t_newFillsAt v_t_top v_t_firstValue v_t_lastValue v_t_waiting v_t_depth v_t_acts v_t_isWinter v_t_learntNow v_t_forgottenNow v_t_heardMany v_t_its0 v_t_hasImage v_t_imageActs v_t_imageHeard r_t_tape) := hD
                          have h := Option.some.inj h
                          obtain ⟨w0, h⟩ := Prod.mk.inj h
                          obtain ⟨w1, h⟩ := Prod.mk.inj h
                          obtain ⟨w2, h⟩ := Prod.mk.inj h
                          obtain ⟨w3, h⟩ := Prod.mk.inj h
                          obtain ⟨w4, h⟩ := Prod.mk.inj h
                          obtain ⟨w5, h⟩ := Prod.mk.inj h
                          subst h
                          subst w0
                          subst w1
                          subst w2
                          subst w3
                          subst w4
                          subst w5
                          exact hret _ _ _ _ hP hS dX12_goes_344
                        · replace h := gs_ift c20 h
                          exact t_X12_goes_323 X0 hk  hret  (h := h) _ _ _ hP hD hS (lv_sub hl [1] rfl)
      · replace h := gs_iff c11 h
        exact t_X12_goes_187 X0 hk  hret (K250 := (fun (v_t_next0' : Int32) (v_t_value' : Int32) => f_X12_goes_250 v_t_next0' v_t_next0 v_t_value' r6 0)) (hK250 := (fun v_t_next0' v_t_value' hq => t_X12_goes_250 X0 hk  hret  (h := hq))) (h := h) _ _ _ hP hD hS (lv_sub hl [1] rfl)
    · replace h := gs_iff c9 h
      exact t_X12_goes_108 X0 hk  hret (K172 := (fun (v_t_next0' : Int32) (v_t_word' : Int64) => f_X12_goes_172 v_t_next0' v_t_next0 0 r6 v_t_word')) (hK172 := (fun v_t_next0' v_t_word' hq => t_X12_goes_172 X0 hk  hret  (h := hq))) (h := h) _ _ _ hP hD hS (lv_sub hl [1] rfl)
  · replace h := gs_iff c7 h
    refine lv_aload_n hx hb dX12_goes_93 rfl (lv_at hl 1 rfl) ?_
    refine lv_iconst (v := 0) hx hb dX12_goes_94 (by decide) ?_
    refine va_put (D := E.1) (ci := 12) (v := .int 0) (ty := .int) (C := RX12) (T := TX12) (N := 61) hx hb hts (fun _ h => (List.mem_cons_of_mem _ (List.mem_append_right _ h))) tyX12 tyX12_ok nmX12 hown hk.1 hP hD hS 0 rfl rfl 16 (by decide) (hts (.fieldLink RX12 135 "GapSongsModel" "sort" "I") (List.mem_cons_of_mem _ (List.mem_append_left _ (List.mem_of_getElem? (i := 6) rfl)))) (fun _ h9 => h9) rfl (by decide +kernel) rfl rfl (Nat.le_of_ble_eq_true rfl) dX12_goes_95 (fun H locs hP hD hS => ?_)
    have hP : va_P E.1 vwCl (w_X12_goes E a_t a_t_tape a_t_songLong a_t_firstNote a_t_wit a_t_code a_t_refused a_t_newSongLong a_t_newFirstNote a_t_newWit a_t_newRow a_t_readCode a_t_waits a_t_tested a_t_isTold a_t_rows a_t_ahead a_t_told a_t_pile a_t_common a_t_mostOf a_t_likes a_t_heard a_t_soon a_t_soonAll a_t_imageRow a_t_imageAhead a_t_imageHears v_t_thrown v_t_songs v_t_people v_t_forgetsAt v_t_fillsAt v_t_taped v_t_faultKind v_t_faultPlace v_t_long1 v_t_next0 0 v_t_next0 v_t_long0 0 r6 0 v_t_newSongs v_t_newPeople v_t_newForgetsAt v_t_newFillsAt v_t_top v_t_firstValue v_t_lastValue v_t_waiting v_t_depth v_t_acts v_t_isWinter v_t_learntNow v_t_forgottenNow v_t_heardMany v_t_its0 v_t_hasImage v_t_imageActs v_t_imageHeard r_t_tape) H := hP
    have hD : va_D A (w_X12_goes E a_t a_t_tape a_t_songLong a_t_firstNote a_t_wit a_t_code a_t_refused a_t_newSongLong a_t_newFirstNote a_t_newWit a_t_newRow a_t_readCode a_t_waits a_t_tested a_t_isTold a_t_rows a_t_ahead a_t_told a_t_pile a_t_common a_t_mostOf a_t_likes a_t_heard a_t_soon a_t_soonAll a_t_imageRow a_t_imageAhead a_t_imageHears v_t_thrown v_t_songs v_t_people v_t_forgetsAt v_t_fillsAt v_t_taped v_t_faultKind v_t_faultPlace v_t_long1 v_t_next0 0 v_t_next0 v_t_long0 0 r6 0 v_t_newSongs v_t_newPeople v_t_newForgetsAt v_t_newFillsAt v_t_top v_t_firstValue v_t_lastValue v_t_waiting v_t_depth v_t_acts v_t_isWinter v_t_learntNow v_t_forgottenNow v_t_heardMany v_t_its0 v_t_hasImage v_t_imageActs v_t_imageHeard r_t_tape) := hD
    refine lv_goto (tgt := 331) hx hb dX12_goes_98 (by decide) ?_
    refine lv_aload_n hx hb dX12_goes_331 rfl (lv_at hl 1 rfl) ?_
    refine lv_aload_n hx hb dX12_goes_332 rfl (lv_at hl 1 rfl) ?_
    refine va_get (D := E.1) (ci := 12) (v := .int v_t_next0) (C := RX12) (T := TX12) (N := 61) hx hb hts (fun _ h => (List.mem_cons_of_mem _ (List.mem_append_right _ h))) hown hk.1 hP 0 rfl rfl 15 (by decide) (hts (.fieldLink RX12 115 "GapSongsModel" "next0" "I") (List.mem_cons_of_mem _ (List.mem_append_left _ (List.mem_of_getElem? (i := 0) rfl)))) (fun _ h9 => h9) rfl dX12_goes_333 ?_
    refine lv_aload_n hx hb dX12_goes_336 rfl (lv_at hl 1 rfl) ?_
    refine va_get (D := E.1) (ci := 12) (v := .int v_t_next0) (C := RX12) (T := TX12) (N := 61) hx hb hts (fun _ h => (List.mem_cons_of_mem _ (List.mem_append_right _ h))) hown hk.1 hP 0 rfl rfl 17 (by decide) (hts (.fieldLink RX12 122 "GapSongsModel" "place" "I") (List.mem_cons_of_mem _ (List.mem_append_left _ (List.mem_of_getElem? (i := 2) rfl)))) (fun _ h9 => h9) rfl dX12_goes_337 ?_
    refine lv_isub hx hb dX12_goes_340 ?_
    refine va_put (D := E.1) (ci := 12) (v := .int (v_t_next0 - v_t_next0)) (ty := .int) (C := RX12) (T := TX12) (N := 61) hx hb hts (fun _ h => (List.mem_cons_of_mem _ (List.mem_append_right _ h))) tyX12 tyX12_ok nmX12 hown hk.1 hP hD hS 0 rfl rfl 18 (by decide) (hts (.fieldLink RX12 145 "GapSongsModel" "long0" "I") (List.mem_cons_of_mem _ (List.mem_append_left _ (List.mem_of_getElem? (i := 7) rfl)))) (fun _ h9 => h9) rfl (by decide +kernel) rfl rfl (Nat.le_of_ble_eq_true rfl) dX12_goes_341 (fun H locs hP hD hS => ?_)
    have hP : va_P E.1 vwCl (w_X12_goes E a_t a_t_tape a_t_songLong a_t_firstNote a_t_wit a_t_code a_t_refused a_t_newSongLong a_t_newFirstNote a_t_newWit a_t_newRow a_t_readCode a_t_waits a_t_tested a_t_isTold a_t_rows a_t_ahead a_t_told a_t_pile a_t_common a_t_mostOf a_t_likes a_t_heard a_t_soon a_t_soonAll a_t_imageRow a_t_imageAhead a_t_imageHears v_t_thrown v_t_songs v_t_people v_t_forgetsAt v_t_fillsAt v_t_taped v_t_faultKind v_t_faultPlace v_t_long1 v_t_next0 0 v_t_next0 (v_t_next0 - v_t_next0) 0 r6 0 v_t_newSongs v_t_newPeople v_t_newForgetsAt v_t_newFillsAt v_t_top v_t_firstValue v_t_lastValue v_t_waiting v_t_depth v_t_acts v_t_isWinter v_t_learntNow v_t_forgottenNow v_t_heardMany v_t_its0 v_t_hasImage v_t_imageActs v_t_imageHeard r_t_tape) H := hP
    have hD : va_D A (w_X12_goes E a_t a_t_tape a_t_songLong a_t_firstNote a_t_wit a_t_code a_t_refused a_t_newSongLong a_t_newFirstNote a_t_newWit a_t_newRow a_t_readCode a_t_waits a_t_tested a_t_isTold a_t_rows a_t_ahead a_t_told a_t_pile a_t_common a_t_mostOf a_t_likes a_t_heard a_t_soon a_t_soonAll a_t_imageRow a_t_imageAhead a_t_imageHears v_t_thrown v_t_songs v_t_people v_t_forgetsAt v_t_fillsAt v_t_taped v_t_faultKind v_t_faultPlace v_t_long1 v_t_next0 0 v_t_next0 (v_t_next0 - v_t_next0) 0 r6 0 v_t_newSongs v_t_newPeople v_t_newForgetsAt v_t_newFillsAt v_t_top v_t_firstValue v_t_lastValue v_t_waiting v_t_depth v_t_acts v_t_isWinter v_t_learntNow v_t_forgottenNow v_t_heardMany v_t_its0 v_t_hasImage v_t_imageActs v_t_imageHeard r_t_tape) := hD
    have h := Option.some.inj h
    obtain ⟨w0, h⟩ := Prod.mk.inj h
    obtain ⟨w1, h⟩ := Prod.mk.inj h
    obtain ⟨w2, h⟩ := Prod.mk.inj h
    obtain ⟨w3, h⟩ := Prod.mk.inj h
    obtain ⟨w4, h⟩ := Prod.mk.inj h
    obtain ⟨w5, h⟩ := Prod.mk.inj h
    subst h
    subst w0
    subst w1
    subst w2
    subst w3
    subst w4
    subst w5
    exact hret _ _ _ _ hP hS dX12_goes_344
def f_X12_goes (v_t_long1 : Int32) (v_t_next0 : Int32) (v_t_sort : Int32) (v_t_place : Int32) (v_t_long0 : Int32) (v_t_value : Int32) (v_t_sign : Int32) (v_t_word : Int64) (r_t_tape : Nat → Int32) : Option (Int32 × Int32 × Int32 × Int32 × Int32 × Int32 × Int64) :=
  gs_it (fun _ => none) (f_X12_goes_0 v_t_long1 r_t_tape (fun (v_t_next0' : Int32) => f_X12_goes_50 v_t_long1 v_t_next0' r_t_tape)) gs_fuel v_t_next0
set_option maxHeartbeats 4000000 in
set_option maxRecDepth 100000 in
theorem c_X12_goes (l : Launch) (E : gs_E) (a_t a_t_tape a_t_songLong a_t_firstNote a_t_wit a_t_code a_t_refused a_t_newSongLong a_t_newFirstNote a_t_newWit a_t_newRow a_t_readCode a_t_waits a_t_tested a_t_isTold a_t_rows a_t_ahead a_t_told a_t_pile a_t_common a_t_mostOf a_t_likes a_t_heard a_t_soon a_t_soonAll a_t_imageRow a_t_imageAhead a_t_imageHears : Nat) (v_t_thrown : Int32) (v_t_songs : Int32) (v_t_people : Int32) (v_t_forgetsAt : Int32) (v_t_fillsAt : Int32) (v_t_taped : Int32) (v_t_faultKind : Int32) (v_t_faultPlace : Int32) (v_t_long1 : Int32) (v_t_next0 : Int32) (v_t_sort : Int32) (v_t_place : Int32) (v_t_long0 : Int32) (v_t_value : Int32) (v_t_sign : Int32) (v_t_word : Int64) (v_t_newSongs : Int32) (v_t_newPeople : Int32) (v_t_newForgetsAt : Int32) (v_t_newFillsAt : Int32) (v_t_top : Int32) (v_t_firstValue : Int32) (v_t_lastValue : Int32) (v_t_waiting : Int32) (v_t_depth : Int32) (v_t_acts : Int32) (v_t_isWinter : Int32) (v_t_learntNow : Int32) (v_t_forgottenNow : Int32) (v_t_heardMany : Int32) (v_t_its0 : Int32) (v_t_hasImage : Int32) (v_t_imageActs : Int32) (v_t_imageHeard : Int32) (r_t_tape : Nat → Int32) (o_t_next0 : Int32) (o_t_sort : Int32) (o_t_place : Int32) (o_t_long0 : Int32) (o_t_value : Int32) (o_t_sign : Int32) (o_t_word : Int64) (h : f_X12_goes v_t_long1 v_t_next0 v_t_sort v_t_place v_t_long0 v_t_value v_t_sign v_t_word r_t_tape = some (o_t_next0, o_t_sort, o_t_place, o_t_long0, o_t_value, o_t_sign, o_t_word)) : gs_MW l yX12_goes wsX12_goes rm_X12_goes [.ref a_t] E (w_X12_goes E a_t a_t_tape a_t_songLong a_t_firstNote a_t_wit a_t_code a_t_refused a_t_newSongLong a_t_newFirstNote a_t_newWit a_t_newRow a_t_readCode a_t_waits a_t_tested a_t_isTold a_t_rows a_t_ahead a_t_told a_t_pile a_t_common a_t_mostOf a_t_likes a_t_heard a_t_soon a_t_soonAll a_t_imageRow a_t_imageAhead a_t_imageHears v_t_thrown v_t_songs v_t_people v_t_forgetsAt v_t_fillsAt v_t_taped v_t_faultKind v_t_faultPlace v_t_long1 v_t_next0 v_t_sort v_t_place v_t_long0 v_t_value v_t_sign v_t_word v_t_newSongs v_t_newPeople v_t_newForgetsAt v_t_newFillsAt v_t_top v_t_firstValue v_t_lastValue v_t_waiting v_t_depth v_t_acts v_t_isWinter v_t_learntNow v_t_forgottenNow v_t_heardMany v_t_its0 v_t_hasImage v_t_imageActs v_t_imageHeard r_t_tape) (w_X12_goes E a_t a_t_tape a_t_songLong a_t_firstNote a_t_wit a_t_code a_t_refused a_t_newSongLong a_t_newFirstNote a_t_newWit a_t_newRow a_t_readCode a_t_waits a_t_tested a_t_isTold a_t_rows a_t_ahead a_t_told a_t_pile a_t_common a_t_mostOf a_t_likes a_t_heard a_t_soon a_t_soonAll a_t_imageRow a_t_imageAhead a_t_imageHears v_t_thrown v_t_songs v_t_people v_t_forgetsAt v_t_fillsAt v_t_taped v_t_faultKind v_t_faultPlace v_t_long1 o_t_next0 o_t_sort o_t_place o_t_long0 o_t_value o_t_sign o_t_word v_t_newSongs v_t_newPeople v_t_newForgetsAt v_t_newFillsAt v_t_top v_t_firstValue v_t_lastValue v_t_waiting v_t_depth v_t_acts v_t_isWinter v_t_learntNow v_t_forgottenNow v_t_heardMany v_t_its0 v_t_hasImage v_t_imageActs v_t_imageHeard r_t_tape) none := by
  refine Met.ofW (cc := cX12_goes) (maxL := 2) (ret := none) (by decide) rfl ?_
  intro p e s m args below meth c s₁ B hml hv
  obtain ⟨rfl, hP, hk, hD0⟩ := hv
  have X0 : gs_X wsX12_goes cX12_goes RX12 2 none p s m ([.ref a_t] : List Value).toArray meth c := gs_X.of B hml
  obtain ⟨hx, hb, -, hown, hts, hr, hlk⟩ := id X0
  have hD := (gs_D_self hD0)
  generalize hAe : gs_w (w_X12_goes E a_t a_t_tape a_t_songLong a_t_firstNote a_t_wit a_t_code a_t_refused a_t_newSongLong a_t_newFirstNote a_t_newWit a_t_newRow a_t_readCode a_t_waits a_t_tested a_t_isTold a_t_rows a_t_ahead a_t_told a_t_pile a_t_common a_t_mostOf a_t_likes a_t_heard a_t_soon a_t_soonAll a_t_imageRow a_t_imageAhead a_t_imageHears v_t_thrown v_t_songs v_t_people v_t_forgetsAt v_t_fillsAt v_t_taped v_t_faultKind v_t_faultPlace v_t_long1 v_t_next0 v_t_sort v_t_place v_t_long0 v_t_value v_t_sign v_t_word v_t_newSongs v_t_newPeople v_t_newForgetsAt v_t_newFillsAt v_t_top v_t_firstValue v_t_lastValue v_t_waiting v_t_depth v_t_acts v_t_isWinter v_t_learntNow v_t_forgottenNow v_t_heardMany v_t_its0 v_t_hasImage v_t_imageActs v_t_imageHeard r_t_tape) = A at hD ⊢
  have hS : va_S A s.heap s.heap [] := va_S.rf
  have hret : ∀ (H : Heap) (locs : List Loc) (pc : Nat) (ls : Array Slot), va_P E.1 vwCl (w_X12_goes E a_t a_t_tape a_t_songLong a_t_firstNote a_t_wit a_t_code a_t_refused a_t_newSongLong a_t_newFirstNote a_t_newWit a_t_newRow a_t_readCode a_t_waits a_t_tested a_t_isTold a_t_rows a_t_ahead a_t_told a_t_pile a_t_common a_t_mostOf a_t_likes a_t_heard a_t_soon a_t_soonAll a_t_imageRow a_t_imageAhead a_t_imageHears v_t_thrown v_t_songs v_t_people v_t_forgetsAt v_t_fillsAt v_t_taped v_t_faultKind v_t_faultPlace v_t_long1 o_t_next0 o_t_sort o_t_place o_t_long0 o_t_value o_t_sign o_t_word v_t_newSongs v_t_newPeople v_t_newForgetsAt v_t_newFillsAt v_t_top v_t_firstValue v_t_lastValue v_t_waiting v_t_depth v_t_acts v_t_isWinter v_t_learntNow v_t_forgottenNow v_t_heardMany v_t_its0 v_t_hasImage v_t_imageActs v_t_imageHeard r_t_tape) H → va_S A s.heap H locs → decode cX12_goes pc = .ok (.return_, 1) → W p l e rm_X12_goes s m ([.ref a_t] : List Value).toArray below meth c H locs 0 0 (MQ below (gs_QWA E A (w_X12_goes E a_t a_t_tape a_t_songLong a_t_firstNote a_t_wit a_t_code a_t_refused a_t_newSongLong a_t_newFirstNote a_t_newWit a_t_newRow a_t_readCode a_t_waits a_t_tested a_t_isTold a_t_rows a_t_ahead a_t_told a_t_pile a_t_common a_t_mostOf a_t_likes a_t_heard a_t_soon a_t_soonAll a_t_imageRow a_t_imageAhead a_t_imageHears v_t_thrown v_t_songs v_t_people v_t_forgetsAt v_t_fillsAt v_t_taped v_t_faultKind v_t_faultPlace v_t_long1 o_t_next0 o_t_sort o_t_place o_t_long0 o_t_value o_t_sign o_t_word v_t_newSongs v_t_newPeople v_t_newForgetsAt v_t_newFillsAt v_t_top v_t_firstValue v_t_lastValue v_t_waiting v_t_depth v_t_acts v_t_isWinter v_t_learntNow v_t_forgottenNow v_t_heardMany v_t_its0 v_t_hasImage v_t_imageActs v_t_imageHeard r_t_tape) none) ([.ref a_t] : List Value).toArray s 0 0 A) (F0 m pc ls []) := fun H locs pc ls hP hS hd => W.vret hx hb hr (fun t ht hW => ⟨rfl, by rw [ht]; exact hP, hS.F ht⟩) hS.2.2 hd
  have hl := lv_entry ([.ref a_t]) (n := 2) (Nat.le_of_ble_eq_true rfl)
  rw [lg_entry_eq]
  generalize (lg_sl ([.ref a_t]) ++ List.replicate (2 - (lg_sl ([.ref a_t])).length) Slot.unset).toArray = ls at hl ⊢
  have hl : lv_has ls 2 [(0, .ref a_t)] := hl
  unfold f_X12_goes at h
  exact t_X12_goes_0 X0 hk  hret (K50 := (fun (v_t_next0' : Int32) => f_X12_goes_50 v_t_long1 v_t_next0' r_t_tape)) (hK50 := (fun v_t_next0' hq => t_X12_goes_50 X0 hk  hret  (h := hq))) (h := h) _ _ _ hP hD hS (lv_sub hl [0] rfl)

theorem dX12_spelled_0 : decode cX12_spelled 0 = .ok (.iload_n 0, 1) := by decide +kernel
theorem dX12_spelled_1 : decode cX12_spelled 1 = .ok (.i2l, 1) := by decide +kernel
theorem dX12_spelled_2 : decode cX12_spelled 2 = .ok (.ldc2_w 148, 3) := by decide +kernel
theorem dX12_spelled_5 : decode cX12_spelled 5 = .ok (.lsub, 1) := by decide +kernel
theorem dX12_spelled_6 : decode cX12_spelled 6 = .ok (.iconst 5, 1) := by decide +kernel
theorem dX12_spelled_7 : decode cX12_spelled 7 = .ok (.lshl, 1) := by decide +kernel
theorem dX12_spelled_8 : decode cX12_spelled 8 = .ok (.iload_n 1, 1) := by decide +kernel
theorem dX12_spelled_9 : decode cX12_spelled 9 = .ok (.bipush 96, 2) := by decide +kernel
theorem dX12_spelled_11 : decode cX12_spelled 11 = .ok (.isub, 1) := by decide +kernel
theorem dX12_spelled_12 : decode cX12_spelled 12 = .ok (.i2l, 1) := by decide +kernel
theorem dX12_spelled_13 : decode cX12_spelled 13 = .ok (.lor, 1) := by decide +kernel
theorem dX12_spelled_14 : decode cX12_spelled 14 = .ok (.lstore 7, 2) := by decide +kernel
theorem dX12_spelled_16 : decode cX12_spelled 16 = .ok (.iload_n 2, 1) := by decide +kernel
theorem dX12_spelled_17 : decode cX12_spelled 17 = .ok (.ifCond .eq 15, 3) := by decide +kernel
theorem dX12_spelled_20 : decode cX12_spelled 20 = .ok (.lload 7, 2) := by decide +kernel
theorem dX12_spelled_22 : decode cX12_spelled 22 = .ok (.iconst 5, 1) := by decide +kernel
theorem dX12_spelled_23 : decode cX12_spelled 23 = .ok (.lshl, 1) := by decide +kernel
theorem dX12_spelled_24 : decode cX12_spelled 24 = .ok (.iload_n 2, 1) := by decide +kernel
theorem dX12_spelled_25 : decode cX12_spelled 25 = .ok (.bipush 96, 2) := by decide +kernel
theorem dX12_spelled_27 : decode cX12_spelled 27 = .ok (.isub, 1) := by decide +kernel
theorem dX12_spelled_28 : decode cX12_spelled 28 = .ok (.i2l, 1) := by decide +kernel
theorem dX12_spelled_29 : decode cX12_spelled 29 = .ok (.lor, 1) := by decide +kernel
theorem dX12_spelled_30 : decode cX12_spelled 30 = .ok (.lstore 7, 2) := by decide +kernel
theorem dX12_spelled_32 : decode cX12_spelled 32 = .ok (.iload_n 3, 1) := by decide +kernel
theorem dX12_spelled_33 : decode cX12_spelled 33 = .ok (.ifCond .eq 15, 3) := by decide +kernel
theorem dX12_spelled_36 : decode cX12_spelled 36 = .ok (.lload 7, 2) := by decide +kernel
theorem dX12_spelled_38 : decode cX12_spelled 38 = .ok (.iconst 5, 1) := by decide +kernel
theorem dX12_spelled_39 : decode cX12_spelled 39 = .ok (.lshl, 1) := by decide +kernel
theorem dX12_spelled_40 : decode cX12_spelled 40 = .ok (.iload_n 3, 1) := by decide +kernel
theorem dX12_spelled_41 : decode cX12_spelled 41 = .ok (.bipush 96, 2) := by decide +kernel
theorem dX12_spelled_43 : decode cX12_spelled 43 = .ok (.isub, 1) := by decide +kernel
theorem dX12_spelled_44 : decode cX12_spelled 44 = .ok (.i2l, 1) := by decide +kernel
theorem dX12_spelled_45 : decode cX12_spelled 45 = .ok (.lor, 1) := by decide +kernel
theorem dX12_spelled_46 : decode cX12_spelled 46 = .ok (.lstore 7, 2) := by decide +kernel
theorem dX12_spelled_48 : decode cX12_spelled 48 = .ok (.iload 4, 2) := by decide +kernel
theorem dX12_spelled_50 : decode cX12_spelled 50 = .ok (.ifCond .eq 16, 3) := by decide +kernel
theorem dX12_spelled_53 : decode cX12_spelled 53 = .ok (.lload 7, 2) := by decide +kernel
theorem dX12_spelled_55 : decode cX12_spelled 55 = .ok (.iconst 5, 1) := by decide +kernel
theorem dX12_spelled_56 : decode cX12_spelled 56 = .ok (.lshl, 1) := by decide +kernel
theorem dX12_spelled_57 : decode cX12_spelled 57 = .ok (.iload 4, 2) := by decide +kernel
theorem dX12_spelled_59 : decode cX12_spelled 59 = .ok (.bipush 96, 2) := by decide +kernel
theorem dX12_spelled_61 : decode cX12_spelled 61 = .ok (.isub, 1) := by decide +kernel
theorem dX12_spelled_62 : decode cX12_spelled 62 = .ok (.i2l, 1) := by decide +kernel
theorem dX12_spelled_63 : decode cX12_spelled 63 = .ok (.lor, 1) := by decide +kernel
theorem dX12_spelled_64 : decode cX12_spelled 64 = .ok (.lstore 7, 2) := by decide +kernel
theorem dX12_spelled_66 : decode cX12_spelled 66 = .ok (.iload 5, 2) := by decide +kernel
theorem dX12_spelled_68 : decode cX12_spelled 68 = .ok (.ifCond .eq 16, 3) := by decide +kernel
theorem dX12_spelled_71 : decode cX12_spelled 71 = .ok (.lload 7, 2) := by decide +kernel
theorem dX12_spelled_73 : decode cX12_spelled 73 = .ok (.iconst 5, 1) := by decide +kernel
theorem dX12_spelled_74 : decode cX12_spelled 74 = .ok (.lshl, 1) := by decide +kernel
theorem dX12_spelled_75 : decode cX12_spelled 75 = .ok (.iload 5, 2) := by decide +kernel
theorem dX12_spelled_77 : decode cX12_spelled 77 = .ok (.bipush 96, 2) := by decide +kernel
theorem dX12_spelled_79 : decode cX12_spelled 79 = .ok (.isub, 1) := by decide +kernel
theorem dX12_spelled_80 : decode cX12_spelled 80 = .ok (.i2l, 1) := by decide +kernel
theorem dX12_spelled_81 : decode cX12_spelled 81 = .ok (.lor, 1) := by decide +kernel
theorem dX12_spelled_82 : decode cX12_spelled 82 = .ok (.lstore 7, 2) := by decide +kernel
theorem dX12_spelled_84 : decode cX12_spelled 84 = .ok (.iload 6, 2) := by decide +kernel
theorem dX12_spelled_86 : decode cX12_spelled 86 = .ok (.ifCond .eq 16, 3) := by decide +kernel
theorem dX12_spelled_89 : decode cX12_spelled 89 = .ok (.lload 7, 2) := by decide +kernel
theorem dX12_spelled_91 : decode cX12_spelled 91 = .ok (.iconst 5, 1) := by decide +kernel
theorem dX12_spelled_92 : decode cX12_spelled 92 = .ok (.lshl, 1) := by decide +kernel
theorem dX12_spelled_93 : decode cX12_spelled 93 = .ok (.iload 6, 2) := by decide +kernel
theorem dX12_spelled_95 : decode cX12_spelled 95 = .ok (.bipush 96, 2) := by decide +kernel
theorem dX12_spelled_97 : decode cX12_spelled 97 = .ok (.isub, 1) := by decide +kernel
theorem dX12_spelled_98 : decode cX12_spelled 98 = .ok (.i2l, 1) := by decide +kernel
theorem dX12_spelled_99 : decode cX12_spelled 99 = .ok (.lor, 1) := by decide +kernel
theorem dX12_spelled_100 : decode cX12_spelled 100 = .ok (.lstore 7, 2) := by decide +kernel
theorem dX12_spelled_102 : decode cX12_spelled 102 = .ok (.lload 7, 2) := by decide +kernel
theorem dX12_spelled_104 : decode cX12_spelled 104 = .ok (.lreturn, 1) := by decide +kernel
abbrev w_X12_spelled (E : gs_E) : va_W := []
abbrev rm_X12_spelled : Room := { frames := 0, cells := 0, slots := 0, locals := 0 }
def S_X12_spelled_32 (p : Program) (l : Launch) (e : Env) (s : State) (m : MethodId) (args : Array Value) (below : List Frame) (meth : Method) (c : Code) (Q : State → Prop) (x3 : Int32) (x4 : Int32) (x5 : Int32) (x6 : Int32) (x7 : Int64) : Prop := ∀ (ls : Array Slot), lv_has ls 9 [(3, .int x3), (4, .int x4), (5, .int x5), (6, .int x6), (7, .long x7)] → W p l e rm_X12_spelled s m args below meth c s.heap [] 0 0 Q (F0 m 32 ls [])
def S_X12_spelled_48 (p : Program) (l : Launch) (e : Env) (s : State) (m : MethodId) (args : Array Value) (below : List Frame) (meth : Method) (c : Code) (Q : State → Prop) (x4 : Int32) (x5 : Int32) (x6 : Int32) (x7 : Int64) : Prop := ∀ (ls : Array Slot), lv_has ls 9 [(4, .int x4), (5, .int x5), (6, .int x6), (7, .long x7)] → W p l e rm_X12_spelled s m args below meth c s.heap [] 0 0 Q (F0 m 48 ls [])
def S_X12_spelled_66 (p : Program) (l : Launch) (e : Env) (s : State) (m : MethodId) (args : Array Value) (below : List Frame) (meth : Method) (c : Code) (Q : State → Prop) (x5 : Int32) (x6 : Int32) (x7 : Int64) : Prop := ∀ (ls : Array Slot), lv_has ls 9 [(5, .int x5), (6, .int x6), (7, .long x7)] → W p l e rm_X12_spelled s m args below meth c s.heap [] 0 0 Q (F0 m 66 ls [])
def S_X12_spelled_84 (p : Program) (l : Launch) (e : Env) (s : State) (m : MethodId) (args : Array Value) (below : List Frame) (meth : Method) (c : Code) (Q : State → Prop) (x6 : Int32) (x7 : Int64) : Prop := ∀ (ls : Array Slot), lv_has ls 9 [(6, .int x6), (7, .long x7)] → W p l e rm_X12_spelled s m args below meth c s.heap [] 0 0 Q (F0 m 84 ls [])
def f_X12_spelled_84 (x6 : Int32) (x7 : Int64) : Option (Int64) :=
  if x6 = 0 then
    some x7
  else
    some ((x7 <<< ((5 : Int32).toInt64 &&& 63)) ||| ((x6 - 96).toInt64))
set_option maxHeartbeats 4000000 in
set_option maxRecDepth 100000 in
theorem t_X12_spelled_84 {p : Program} {l : Launch} {e : Env} {s : State} {m : MethodId} {args : Array Value} {below : List Frame} {meth : Method} {c : Code} {Q : State → Prop} {E : gs_E} {rr : Int64} (X0 : gs_X wsX12_spelled cX12_spelled RX12 9 (some .long) p s m args meth c) (hk : gs_K E s) (hP : va_P E.1 vwCl (w_X12_spelled E ) s.heap) (hD : va_D (fun _ => True) (w_X12_spelled E )) {x6 : Int32} {x7 : Int64} (hret : ∀ (pc : Nat) (ls : Array Slot), decode cX12_spelled pc = .ok (.lreturn, 1) → W p l e rm_X12_spelled s m args below meth c s.heap [] 0 0 Q (F0 m pc ls [.long rr])) (h : f_X12_spelled_84 x6 x7 = some rr) : S_X12_spelled_84 p l e s m args below meth c Q  x6 x7 := by
  obtain ⟨hx, hb, hml, hown, hts, hr, hlk⟩ := id X0
  intro ls hl
  unfold f_X12_spelled_84 at h
  refine lv_iload hx hb dX12_spelled_84 (lv_at hl 0 rfl) ?_
  refine lv_if_eq (tgt := 102) hx hb dX12_spelled_86 (by decide) (fun c5 => ?_) (fun c5 => ?_)
  · replace h := gs_ift c5 h
    refine lv_lload hx hb dX12_spelled_102 (lv_at hl 1 rfl) ?_
    have h := Option.some.inj h
    subst h
    exact hret _ _ dX12_spelled_104
  · replace h := gs_iff c5 h
    refine lv_lload hx hb dX12_spelled_89 (lv_at hl 1 rfl) ?_
    refine lv_iconst (v := 5) hx hb dX12_spelled_91 (by decide) ?_
    refine lv_lshl (v := x7 <<< ((5 : Int32).toInt64 &&& 63)) hx hb dX12_spelled_92 rfl ?_
    refine lv_iload hx hb dX12_spelled_93 (lv_at hl 0 rfl) ?_
    refine lv_bipush (v := 96) hx hb dX12_spelled_95 (by decide) ?_
    refine lv_isub hx hb dX12_spelled_97 ?_
    refine lv_i2l (v := (x6 - 96).toInt64) hx hb dX12_spelled_98 rfl ?_
    refine lv_lor hx hb dX12_spelled_99 ?_
    refine lv_lstore (lv' := [(7, .long ((x7 <<< ((5 : Int32).toInt64 &&& 63)) ||| ((x6 - 96).toInt64))), (6, .int x6)]) hx hb dX12_spelled_100 hl (by decide) rfl (fun ls hl => ?_)
    refine lv_lload hx hb dX12_spelled_102 (lv_at hl 0 rfl) ?_
    have h := Option.some.inj h
    subst h
    exact hret _ _ dX12_spelled_104
def f_X12_spelled_66 (x5 : Int32) (x6 : Int32) (x7 : Int64) : Option (Int64) :=
  if x5 = 0 then
    f_X12_spelled_84 x6 x7
  else
    f_X12_spelled_84 x6 ((x7 <<< ((5 : Int32).toInt64 &&& 63)) ||| ((x5 - 96).toInt64))
set_option maxHeartbeats 4000000 in
set_option maxRecDepth 100000 in
theorem t_X12_spelled_66 {p : Program} {l : Launch} {e : Env} {s : State} {m : MethodId} {args : Array Value} {below : List Frame} {meth : Method} {c : Code} {Q : State → Prop} {E : gs_E} {rr : Int64} (X0 : gs_X wsX12_spelled cX12_spelled RX12 9 (some .long) p s m args meth c) (hk : gs_K E s) (hP : va_P E.1 vwCl (w_X12_spelled E ) s.heap) (hD : va_D (fun _ => True) (w_X12_spelled E )) {x5 : Int32} {x6 : Int32} {x7 : Int64} (hret : ∀ (pc : Nat) (ls : Array Slot), decode cX12_spelled pc = .ok (.lreturn, 1) → W p l e rm_X12_spelled s m args below meth c s.heap [] 0 0 Q (F0 m pc ls [.long rr])) (h : f_X12_spelled_66 x5 x6 x7 = some rr) : S_X12_spelled_66 p l e s m args below meth c Q  x5 x6 x7 := by
  obtain ⟨hx, hb, hml, hown, hts, hr, hlk⟩ := id X0
  intro ls hl
  unfold f_X12_spelled_66 at h
  refine lv_iload hx hb dX12_spelled_66 (lv_at hl 0 rfl) ?_
  refine lv_if_eq (tgt := 84) hx hb dX12_spelled_68 (by decide) (fun c4 => ?_) (fun c4 => ?_)
  · replace h := gs_ift c4 h
    exact t_X12_spelled_84 X0 hk hP hD hret  (h := h) _ (lv_sub hl [1, 2] rfl)
  · replace h := gs_iff c4 h
    refine lv_lload hx hb dX12_spelled_71 (lv_at hl 2 rfl) ?_
    refine lv_iconst (v := 5) hx hb dX12_spelled_73 (by decide) ?_
    refine lv_lshl (v := x7 <<< ((5 : Int32).toInt64 &&& 63)) hx hb dX12_spelled_74 rfl ?_
    refine lv_iload hx hb dX12_spelled_75 (lv_at hl 0 rfl) ?_
    refine lv_bipush (v := 96) hx hb dX12_spelled_77 (by decide) ?_
    refine lv_isub hx hb dX12_spelled_79 ?_
    refine lv_i2l (v := (x5 - 96).toInt64) hx hb dX12_spelled_80 rfl ?_
    refine lv_lor hx hb dX12_spelled_81 ?_
    refine lv_lstore (lv' := [(7, .long ((x7 <<< ((5 : Int32).toInt64 &&& 63)) ||| ((x5 - 96).toInt64))), (5, .int x5), (6, .int x6)]) hx hb dX12_spelled_82 hl (by decide) rfl (fun ls hl => ?_)
    exact t_X12_spelled_84 X0 hk hP hD hret  (h := h) _ (lv_sub hl [2, 0] rfl)
def f_X12_spelled_48 (x4 : Int32) (x5 : Int32) (x6 : Int32) (x7 : Int64) : Option (Int64) :=
  if x4 = 0 then
    f_X12_spelled_66 x5 x6 x7
  else
    f_X12_spelled_66 x5 x6 ((x7 <<< ((5 : Int32).toInt64 &&& 63)) ||| ((x4 - 96).toInt64))
set_option maxHeartbeats 4000000 in
set_option maxRecDepth 100000 in
theorem t_X12_spelled_48 {p : Program} {l : Launch} {e : Env} {s : State} {m : MethodId} {args : Array Value} {below : List Frame} {meth : Method} {c : Code} {Q : State → Prop} {E : gs_E} {rr : Int64} (X0 : gs_X wsX12_spelled cX12_spelled RX12 9 (some .long) p s m args meth c) (hk : gs_K E s) (hP : va_P E.1 vwCl (w_X12_spelled E ) s.heap) (hD : va_D (fun _ => True) (w_X12_spelled E )) {x4 : Int32} {x5 : Int32} {x6 : Int32} {x7 : Int64} (hret : ∀ (pc : Nat) (ls : Array Slot), decode cX12_spelled pc = .ok (.lreturn, 1) → W p l e rm_X12_spelled s m args below meth c s.heap [] 0 0 Q (F0 m pc ls [.long rr])) (h : f_X12_spelled_48 x4 x5 x6 x7 = some rr) : S_X12_spelled_48 p l e s m args below meth c Q  x4 x5 x6 x7 := by
  obtain ⟨hx, hb, hml, hown, hts, hr, hlk⟩ := id X0
  intro ls hl
  unfold f_X12_spelled_48 at h
  refine lv_iload hx hb dX12_spelled_48 (lv_at hl 0 rfl) ?_
  refine lv_if_eq (tgt := 66) hx hb dX12_spelled_50 (by decide) (fun c3 => ?_) (fun c3 => ?_)
  · replace h := gs_ift c3 h
    exact t_X12_spelled_66 X0 hk hP hD hret  (h := h) _ (lv_sub hl [1, 2, 3] rfl)
  · replace h := gs_iff c3 h
    refine lv_lload hx hb dX12_spelled_53 (lv_at hl 3 rfl) ?_
    refine lv_iconst (v := 5) hx hb dX12_spelled_55 (by decide) ?_
    refine lv_lshl (v := x7 <<< ((5 : Int32).toInt64 &&& 63)) hx hb dX12_spelled_56 rfl ?_
    refine lv_iload hx hb dX12_spelled_57 (lv_at hl 0 rfl) ?_
    refine lv_bipush (v := 96) hx hb dX12_spelled_59 (by decide) ?_
    refine lv_isub hx hb dX12_spelled_61 ?_
    refine lv_i2l (v := (x4 - 96).toInt64) hx hb dX12_spelled_62 rfl ?_
    refine lv_lor hx hb dX12_spelled_63 ?_
    refine lv_lstore (lv' := [(7, .long ((x7 <<< ((5 : Int32).toInt64 &&& 63)) ||| ((x4 - 96).toInt64))), (4, .int x4), (5, .int x5), (6, .int x6)]) hx hb dX12_spelled_64 hl (by decide) rfl (fun ls hl => ?_)
    exact t_X12_spelled_66 X0 hk hP hD hret  (h := h) _ (lv_sub hl [2, 3, 0] rfl)
def f_X12_spelled_32 (x3 : Int32) (x4 : Int32) (x5 : Int32) (x6 : Int32) (x7 : Int64) : Option (Int64) :=
  if x3 = 0 then
    f_X12_spelled_48 x4 x5 x6 x7
  else
    f_X12_spelled_48 x4 x5 x6 ((x7 <<< ((5 : Int32).toInt64 &&& 63)) ||| ((x3 - 96).toInt64))
set_option maxHeartbeats 4000000 in
set_option maxRecDepth 100000 in
theorem t_X12_spelled_32 {p : Program} {l : Launch} {e : Env} {s : State} {m : MethodId} {args : Array Value} {below : List Frame} {meth : Method} {c : Code} {Q : State → Prop} {E : gs_E} {rr : Int64} (X0 : gs_X wsX12_spelled cX12_spelled RX12 9 (some .long) p s m args meth c) (hk : gs_K E s) (hP : va_P E.1 vwCl (w_X12_spelled E ) s.heap) (hD : va_D (fun _ => True) (w_X12_spelled E )) {x3 : Int32} {x4 : Int32} {x5 : Int32} {x6 : Int32} {x7 : Int64} (hret : ∀ (pc : Nat) (ls : Array Slot), decode cX12_spelled pc = .ok (.lreturn, 1) → W p l e rm_X12_spelled s m args below meth c s.heap [] 0 0 Q (F0 m pc ls [.long rr])) (h : f_X12_spelled_32 x3 x4 x5 x6 x7 = some rr) : S_X12_spelled_32 p l e s m args below meth c Q  x3 x4 x5 x6 x7 := by
  obtain ⟨hx, hb, hml, hown, hts, hr, hlk⟩ := id X0
  intro ls hl
  unfold f_X12_spelled_32 at h
  refine lv_iload_n hx hb dX12_spelled_32 rfl (lv_at hl 0 rfl) ?_
  refine lv_if_eq (tgt := 48) hx hb dX12_spelled_33 (by decide) (fun c2 => ?_) (fun c2 => ?_)
  · replace h := gs_ift c2 h
    exact t_X12_spelled_48 X0 hk hP hD hret  (h := h) _ (lv_sub hl [1, 2, 3, 4] rfl)
  · replace h := gs_iff c2 h
    refine lv_lload hx hb dX12_spelled_36 (lv_at hl 4 rfl) ?_
    refine lv_iconst (v := 5) hx hb dX12_spelled_38 (by decide) ?_
    refine lv_lshl (v := x7 <<< ((5 : Int32).toInt64 &&& 63)) hx hb dX12_spelled_39 rfl ?_
    refine lv_iload_n hx hb dX12_spelled_40 rfl (lv_at hl 0 rfl) ?_
    refine lv_bipush (v := 96) hx hb dX12_spelled_41 (by decide) ?_
    refine lv_isub hx hb dX12_spelled_43 ?_
    refine lv_i2l (v := (x3 - 96).toInt64) hx hb dX12_spelled_44 rfl ?_
    refine lv_lor hx hb dX12_spelled_45 ?_
    refine lv_lstore (lv' := [(7, .long ((x7 <<< ((5 : Int32).toInt64 &&& 63)) ||| ((x3 - 96).toInt64))), (3, .int x3), (4, .int x4), (5, .int x5), (6, .int x6)]) hx hb dX12_spelled_46 hl (by decide) rfl (fun ls hl => ?_)
    exact t_X12_spelled_48 X0 hk hP hD hret  (h := h) _ (lv_sub hl [2, 3, 4, 0] rfl)
def f_X12_spelled (x0 : Int32) (x1 : Int32) (x2 : Int32) (x3 : Int32) (x4 : Int32) (x5 : Int32) (x6 : Int32) : Option (Int64) :=
  if x2 = 0 then
    f_X12_spelled_32 x3 x4 x5 x6 (((x0.toInt64 - 96) <<< ((5 : Int32).toInt64 &&& 63)) ||| ((x1 - 96).toInt64))
  else
    f_X12_spelled_32 x3 x4 x5 x6 (((((x0.toInt64 - 96) <<< ((5 : Int32).toInt64 &&& 63)) ||| ((x1 - 96).toInt64)) <<< ((5 : Int32).toInt64 &&& 63)) ||| ((x2 - 96).toInt64))
set_option maxHeartbeats 4000000 in
set_option maxRecDepth 100000 in
theorem c_X12_spelled (l : Launch) (E : gs_E) (x0 : Int32) (x1 : Int32) (x2 : Int32) (x3 : Int32) (x4 : Int32) (x5 : Int32) (x6 : Int32) (rr : Int64) (h : f_X12_spelled x0 x1 x2 x3 x4 x5 x6 = some rr) : gs_MR l yX12_spelled wsX12_spelled rm_X12_spelled [.int x0, .int x1, .int x2, .int x3, .int x4, .int x5, .int x6] E (w_X12_spelled E ) (some (.long rr)) := by
  refine Met.ofW (cc := cX12_spelled) (maxL := 9) (ret := (some .long)) (by decide) rfl ?_
  intro p e s m args below meth c s₁ B hml hv
  obtain ⟨rfl, hP, hk, hD0⟩ := hv
  have X0 : gs_X wsX12_spelled cX12_spelled RX12 9 (some .long) p s m ([.int x0, .int x1, .int x2, .int x3, .int x4, .int x5, .int x6] : List Value).toArray meth c := gs_X.of B hml
  obtain ⟨hx, hb, -, hown, hts, hr, hlk⟩ := id X0
  have hD := hD0
  have hret : ∀ (pc : Nat) (ls : Array Slot), decode cX12_spelled pc = .ok (.lreturn, 1) → W p l e rm_X12_spelled s m ([.int x0, .int x1, .int x2, .int x3, .int x4, .int x5, .int x6] : List Value).toArray below meth c s.heap [] 0 0 (MQ below (gs_QR (some (.long rr))) ([.int x0, .int x1, .int x2, .int x3, .int x4, .int x5, .int x6] : List Value).toArray s 0 0 (fun _ => False)) (F0 m pc ls [.long rr]) := fun pc ls hd => W.lret hx hb hr (fun t ht hW => ⟨rfl, ht⟩) (fun q hq => by cases hq) hd
  have hl := lv_entry ([.int x0, .int x1, .int x2, .int x3, .int x4, .int x5, .int x6]) (n := 9) (Nat.le_of_ble_eq_true rfl)
  rw [lg_entry_eq]
  generalize (lg_sl ([.int x0, .int x1, .int x2, .int x3, .int x4, .int x5, .int x6]) ++ List.replicate (9 - (lg_sl ([.int x0, .int x1, .int x2, .int x3, .int x4, .int x5, .int x6])).length) Slot.unset).toArray = ls at hl ⊢
  have hl : lv_has ls 9 [(0, .int x0), (1, .int x1), (2, .int x2), (3, .int x3), (4, .int x4), (5, .int x5), (6, .int x6)] := hl
  unfold f_X12_spelled at h
  refine lv_iload_n hx hb dX12_spelled_0 rfl (lv_at hl 0 rfl) ?_
  refine lv_i2l (v := x0.toInt64) hx hb dX12_spelled_1 rfl ?_
  refine lv_ldc2 (v := 96) hx hb hown (hts (.constantLong RX12 148 (96)) (List.mem_cons_of_mem _ (List.mem_of_getElem? (i := 0) rfl))) dX12_spelled_2 ?_
  refine lv_lsub hx hb dX12_spelled_5 ?_
  refine lv_iconst (v := 5) hx hb dX12_spelled_6 (by decide) ?_
  refine lv_lshl (v := (x0.toInt64 - 96) <<< ((5 : Int32).toInt64 &&& 63)) hx hb dX12_spelled_7 rfl ?_
  refine lv_iload_n hx hb dX12_spelled_8 rfl (lv_at hl 1 rfl) ?_
  refine lv_bipush (v := 96) hx hb dX12_spelled_9 (by decide) ?_
  refine lv_isub hx hb dX12_spelled_11 ?_
  refine lv_i2l (v := (x1 - 96).toInt64) hx hb dX12_spelled_12 rfl ?_
  refine lv_lor hx hb dX12_spelled_13 ?_
  refine lv_lstore (lv' := [(7, .long (((x0.toInt64 - 96) <<< ((5 : Int32).toInt64 &&& 63)) ||| ((x1 - 96).toInt64))), (0, .int x0), (1, .int x1), (2, .int x2), (3, .int x3), (4, .int x4), (5, .int x5), (6, .int x6)]) hx hb dX12_spelled_14 hl (by decide) rfl (fun ls hl => ?_)
  refine lv_iload_n hx hb dX12_spelled_16 rfl (lv_at hl 3 rfl) ?_
  refine lv_if_eq (tgt := 32) hx hb dX12_spelled_17 (by decide) (fun c1 => ?_) (fun c1 => ?_)
  · replace h := gs_ift c1 h
    exact t_X12_spelled_32 X0 hk hP hD hret  (h := h) _ (lv_sub hl [4, 5, 6, 7, 0] rfl)
  · replace h := gs_iff c1 h
    refine lv_lload hx hb dX12_spelled_20 (lv_at hl 0 rfl) ?_
    refine lv_iconst (v := 5) hx hb dX12_spelled_22 (by decide) ?_
    refine lv_lshl (v := (((x0.toInt64 - 96) <<< ((5 : Int32).toInt64 &&& 63)) ||| ((x1 - 96).toInt64)) <<< ((5 : Int32).toInt64 &&& 63)) hx hb dX12_spelled_23 rfl ?_
    refine lv_iload_n hx hb dX12_spelled_24 rfl (lv_at hl 3 rfl) ?_
    refine lv_bipush (v := 96) hx hb dX12_spelled_25 (by decide) ?_
    refine lv_isub hx hb dX12_spelled_27 ?_
    refine lv_i2l (v := (x2 - 96).toInt64) hx hb dX12_spelled_28 rfl ?_
    refine lv_lor hx hb dX12_spelled_29 ?_
    refine lv_lstore (lv' := [(7, .long (((((x0.toInt64 - 96) <<< ((5 : Int32).toInt64 &&& 63)) ||| ((x1 - 96).toInt64)) <<< ((5 : Int32).toInt64 &&& 63)) ||| ((x2 - 96).toInt64))), (0, .int x0), (1, .int x1), (2, .int x2), (3, .int x3), (4, .int x4), (5, .int x5), (6, .int x6)]) hx hb dX12_spelled_30 hl (by decide) rfl (fun ls hl => ?_)
    exact t_X12_spelled_32 X0 hk hP hD hret  (h := h) _ (lv_sub hl [4, 5, 6, 7, 0] rfl)

set_option maxRecDepth 100000 in
theorem ggX12_letters_X12_spelled : GoodIn wsX12_letters wsX12_spelled := goodIn_r _ [4, 5] rfl (by decide +kernel)
set_option maxRecDepth 100000 in
theorem gX12_letters_X12_spelled : GoodIn wsX12_letters (va_wsS RX12 150 yX12_spelled wsX12_spelled) := goodIn_app (goodIn_of _ (by decide +kernel)) ggX12_letters_X12_spelled
theorem dX12_letters_0 : decode cX12_letters 0 = .ok (.iload_n 0, 1) := by decide +kernel
theorem dX12_letters_1 : decode cX12_letters 1 = .ok (.tableswitch 345 0 16 #[83, 100, 115, 130, 145, 159, 175, 189, 206, 222, 237, 254, 268, 284, 302, 318, 332], 83) := by decide +kernel
theorem dX12_letters_84 : decode cX12_letters 84 = .ok (.bipush 109, 2) := by decide +kernel
theorem dX12_letters_86 : decode cX12_letters 86 = .ok (.bipush 101, 2) := by decide +kernel
theorem dX12_letters_88 : decode cX12_letters 88 = .ok (.bipush 109, 2) := by decide +kernel
theorem dX12_letters_90 : decode cX12_letters 90 = .ok (.bipush 111, 2) := by decide +kernel
theorem dX12_letters_92 : decode cX12_letters 92 = .ok (.bipush 114, 2) := by decide +kernel
theorem dX12_letters_94 : decode cX12_letters 94 = .ok (.bipush 121, 2) := by decide +kernel
theorem dX12_letters_96 : decode cX12_letters 96 = .ok (.iconst 0, 1) := by decide +kernel
theorem dX12_letters_97 : decode cX12_letters 97 = .ok (.invokestatic 150, 3) := by decide +kernel
theorem dX12_letters_100 : decode cX12_letters 100 = .ok (.lreturn, 1) := by decide +kernel
theorem dX12_letters_101 : decode cX12_letters 101 = .ok (.bipush 110, 2) := by decide +kernel
theorem dX12_letters_103 : decode cX12_letters 103 = .ok (.bipush 111, 2) := by decide +kernel
theorem dX12_letters_105 : decode cX12_letters 105 = .ok (.bipush 116, 2) := by decide +kernel
theorem dX12_letters_107 : decode cX12_letters 107 = .ok (.bipush 101, 2) := by decide +kernel
theorem dX12_letters_109 : decode cX12_letters 109 = .ok (.iconst 0, 1) := by decide +kernel
theorem dX12_letters_110 : decode cX12_letters 110 = .ok (.iconst 0, 1) := by decide +kernel
theorem dX12_letters_111 : decode cX12_letters 111 = .ok (.iconst 0, 1) := by decide +kernel
theorem dX12_letters_112 : decode cX12_letters 112 = .ok (.invokestatic 150, 3) := by decide +kernel
theorem dX12_letters_115 : decode cX12_letters 115 = .ok (.lreturn, 1) := by decide +kernel
theorem dX12_letters_116 : decode cX12_letters 116 = .ok (.bipush 103, 2) := by decide +kernel
theorem dX12_letters_118 : decode cX12_letters 118 = .ok (.bipush 97, 2) := by decide +kernel
theorem dX12_letters_120 : decode cX12_letters 120 = .ok (.bipush 112, 2) := by decide +kernel
theorem dX12_letters_122 : decode cX12_letters 122 = .ok (.bipush 115, 2) := by decide +kernel
theorem dX12_letters_124 : decode cX12_letters 124 = .ok (.iconst 0, 1) := by decide +kernel
theorem dX12_letters_125 : decode cX12_letters 125 = .ok (.iconst 0, 1) := by decide +kernel
theorem dX12_letters_126 : decode cX12_letters 126 = .ok (.iconst 0, 1) := by decide +kernel
theorem dX12_letters_127 : decode cX12_letters 127 = .ok (.invokestatic 150, 3) := by decide +kernel
theorem dX12_letters_130 : decode cX12_letters 130 = .ok (.lreturn, 1) := by decide +kernel
theorem dX12_letters_131 : decode cX12_letters 131 = .ok (.bipush 119, 2) := by decide +kernel
theorem dX12_letters_133 : decode cX12_letters 133 = .ok (.bipush 105, 2) := by decide +kernel
theorem dX12_letters_135 : decode cX12_letters 135 = .ok (.bipush 116, 2) := by decide +kernel
theorem dX12_letters_137 : decode cX12_letters 137 = .ok (.bipush 104, 2) := by decide +kernel
theorem dX12_letters_139 : decode cX12_letters 139 = .ok (.iconst 0, 1) := by decide +kernel
theorem dX12_letters_140 : decode cX12_letters 140 = .ok (.iconst 0, 1) := by decide +kernel
theorem dX12_letters_141 : decode cX12_letters 141 = .ok (.iconst 0, 1) := by decide +kernel
theorem dX12_letters_142 : decode cX12_letters 142 = .ok (.invokestatic 150, 3) := by decide +kernel
theorem dX12_letters_145 : decode cX12_letters 145 = .ok (.lreturn, 1) := by decide +kernel
theorem dX12_letters_146 : decode cX12_letters 146 = .ok (.bipush 119, 2) := by decide +kernel
theorem dX12_letters_148 : decode cX12_letters 148 = .ok (.bipush 105, 2) := by decide +kernel
theorem dX12_letters_150 : decode cX12_letters 150 = .ok (.bipush 116, 2) := by decide +kernel
theorem dX12_letters_152 : decode cX12_letters 152 = .ok (.iconst 0, 1) := by decide +kernel
theorem dX12_letters_153 : decode cX12_letters 153 = .ok (.iconst 0, 1) := by decide +kernel
theorem dX12_letters_154 : decode cX12_letters 154 = .ok (.iconst 0, 1) := by decide +kernel
theorem dX12_letters_155 : decode cX12_letters 155 = .ok (.iconst 0, 1) := by decide +kernel
theorem dX12_letters_156 : decode cX12_letters 156 = .ok (.invokestatic 150, 3) := by decide +kernel
theorem dX12_letters_159 : decode cX12_letters 159 = .ok (.lreturn, 1) := by decide +kernel
theorem dX12_letters_160 : decode cX12_letters 160 = .ok (.bipush 112, 2) := by decide +kernel
theorem dX12_letters_162 : decode cX12_letters 162 = .ok (.bipush 108, 2) := by decide +kernel
theorem dX12_letters_164 : decode cX12_letters 164 = .ok (.bipush 97, 2) := by decide +kernel
theorem dX12_letters_166 : decode cX12_letters 166 = .ok (.bipush 99, 2) := by decide +kernel
theorem dX12_letters_168 : decode cX12_letters 168 = .ok (.bipush 101, 2) := by decide +kernel
theorem dX12_letters_170 : decode cX12_letters 170 = .ok (.iconst 0, 1) := by decide +kernel
theorem dX12_letters_171 : decode cX12_letters 171 = .ok (.iconst 0, 1) := by decide +kernel
theorem dX12_letters_172 : decode cX12_letters 172 = .ok (.invokestatic 150, 3) := by decide +kernel
theorem dX12_letters_175 : decode cX12_letters 175 = .ok (.lreturn, 1) := by decide +kernel
theorem dX12_letters_176 : decode cX12_letters 176 = .ok (.bipush 100, 2) := by decide +kernel
theorem dX12_letters_178 : decode cX12_letters 178 = .ok (.bipush 97, 2) := by decide +kernel
theorem dX12_letters_180 : decode cX12_letters 180 = .ok (.bipush 121, 2) := by decide +kernel
theorem dX12_letters_182 : decode cX12_letters 182 = .ok (.iconst 0, 1) := by decide +kernel
theorem dX12_letters_183 : decode cX12_letters 183 = .ok (.iconst 0, 1) := by decide +kernel
theorem dX12_letters_184 : decode cX12_letters 184 = .ok (.iconst 0, 1) := by decide +kernel
theorem dX12_letters_185 : decode cX12_letters 185 = .ok (.iconst 0, 1) := by decide +kernel
theorem dX12_letters_186 : decode cX12_letters 186 = .ok (.invokestatic 150, 3) := by decide +kernel
theorem dX12_letters_189 : decode cX12_letters 189 = .ok (.lreturn, 1) := by decide +kernel
theorem dX12_letters_190 : decode cX12_letters 190 = .ok (.bipush 98, 2) := by decide +kernel
theorem dX12_letters_192 : decode cX12_letters 192 = .ok (.bipush 101, 2) := by decide +kernel
theorem dX12_letters_194 : decode cX12_letters 194 = .ok (.bipush 102, 2) := by decide +kernel
theorem dX12_letters_196 : decode cX12_letters 196 = .ok (.bipush 111, 2) := by decide +kernel
theorem dX12_letters_198 : decode cX12_letters 198 = .ok (.bipush 114, 2) := by decide +kernel
theorem dX12_letters_200 : decode cX12_letters 200 = .ok (.bipush 101, 2) := by decide +kernel
theorem dX12_letters_202 : decode cX12_letters 202 = .ok (.iconst 0, 1) := by decide +kernel
theorem dX12_letters_203 : decode cX12_letters 203 = .ok (.invokestatic 150, 3) := by decide +kernel
theorem dX12_letters_206 : decode cX12_letters 206 = .ok (.lreturn, 1) := by decide +kernel
theorem dX12_letters_207 : decode cX12_letters 207 = .ok (.bipush 97, 2) := by decide +kernel
theorem dX12_letters_209 : decode cX12_letters 209 = .ok (.bipush 102, 2) := by decide +kernel
theorem dX12_letters_211 : decode cX12_letters 211 = .ok (.bipush 116, 2) := by decide +kernel
theorem dX12_letters_213 : decode cX12_letters 213 = .ok (.bipush 101, 2) := by decide +kernel
theorem dX12_letters_215 : decode cX12_letters 215 = .ok (.bipush 114, 2) := by decide +kernel
theorem dX12_letters_217 : decode cX12_letters 217 = .ok (.iconst 0, 1) := by decide +kernel
theorem dX12_letters_218 : decode cX12_letters 218 = .ok (.iconst 0, 1) := by decide +kernel
theorem dX12_letters_219 : decode cX12_letters 219 = .ok (.invokestatic 150, 3) := by decide +kernel
theorem dX12_letters_222 : decode cX12_letters 222 = .ok (.lreturn, 1) := by decide +kernel
theorem dX12_letters_223 : decode cX12_letters 223 = .ok (.bipush 115, 2) := by decide +kernel
theorem dX12_letters_225 : decode cX12_letters 225 = .ok (.bipush 111, 2) := by decide +kernel
theorem dX12_letters_227 : decode cX12_letters 227 = .ok (.bipush 110, 2) := by decide +kernel
theorem dX12_letters_229 : decode cX12_letters 229 = .ok (.bipush 103, 2) := by decide +kernel
theorem dX12_letters_231 : decode cX12_letters 231 = .ok (.iconst 0, 1) := by decide +kernel
theorem dX12_letters_232 : decode cX12_letters 232 = .ok (.iconst 0, 1) := by decide +kernel
theorem dX12_letters_233 : decode cX12_letters 233 = .ok (.iconst 0, 1) := by decide +kernel
theorem dX12_letters_234 : decode cX12_letters 234 = .ok (.invokestatic 150, 3) := by decide +kernel
theorem dX12_letters_237 : decode cX12_letters 237 = .ok (.lreturn, 1) := by decide +kernel
theorem dX12_letters_238 : decode cX12_letters 238 = .ok (.bipush 112, 2) := by decide +kernel
theorem dX12_letters_240 : decode cX12_letters 240 = .ok (.bipush 101, 2) := by decide +kernel
theorem dX12_letters_242 : decode cX12_letters 242 = .ok (.bipush 114, 2) := by decide +kernel
theorem dX12_letters_244 : decode cX12_letters 244 = .ok (.bipush 115, 2) := by decide +kernel
theorem dX12_letters_246 : decode cX12_letters 246 = .ok (.bipush 111, 2) := by decide +kernel
theorem dX12_letters_248 : decode cX12_letters 248 = .ok (.bipush 110, 2) := by decide +kernel
theorem dX12_letters_250 : decode cX12_letters 250 = .ok (.iconst 0, 1) := by decide +kernel
theorem dX12_letters_251 : decode cX12_letters 251 = .ok (.invokestatic 150, 3) := by decide +kernel
theorem dX12_letters_254 : decode cX12_letters 254 = .ok (.lreturn, 1) := by decide +kernel
theorem dX12_letters_255 : decode cX12_letters 255 = .ok (.bipush 104, 2) := by decide +kernel
theorem dX12_letters_257 : decode cX12_letters 257 = .ok (.bipush 97, 2) := by decide +kernel
theorem dX12_letters_259 : decode cX12_letters 259 = .ok (.bipush 115, 2) := by decide +kernel
theorem dX12_letters_261 : decode cX12_letters 261 = .ok (.iconst 0, 1) := by decide +kernel
theorem dX12_letters_262 : decode cX12_letters 262 = .ok (.iconst 0, 1) := by decide +kernel
theorem dX12_letters_263 : decode cX12_letters 263 = .ok (.iconst 0, 1) := by decide +kernel
theorem dX12_letters_264 : decode cX12_letters 264 = .ok (.iconst 0, 1) := by decide +kernel
theorem dX12_letters_265 : decode cX12_letters 265 = .ok (.invokestatic 150, 3) := by decide +kernel
theorem dX12_letters_268 : decode cX12_letters 268 = .ok (.lreturn, 1) := by decide +kernel
theorem dX12_letters_269 : decode cX12_letters 269 = .ok (.bipush 115, 2) := by decide +kernel
theorem dX12_letters_271 : decode cX12_letters 271 = .ok (.bipush 101, 2) := by decide +kernel
theorem dX12_letters_273 : decode cX12_letters 273 = .ok (.bipush 101, 2) := by decide +kernel
theorem dX12_letters_275 : decode cX12_letters 275 = .ok (.bipush 107, 2) := by decide +kernel
theorem dX12_letters_277 : decode cX12_letters 277 = .ok (.bipush 115, 2) := by decide +kernel
theorem dX12_letters_279 : decode cX12_letters 279 = .ok (.iconst 0, 1) := by decide +kernel
theorem dX12_letters_280 : decode cX12_letters 280 = .ok (.iconst 0, 1) := by decide +kernel
theorem dX12_letters_281 : decode cX12_letters 281 = .ok (.invokestatic 150, 3) := by decide +kernel
theorem dX12_letters_284 : decode cX12_letters 284 = .ok (.lreturn, 1) := by decide +kernel
theorem dX12_letters_285 : decode cX12_letters 285 = .ok (.bipush 102, 2) := by decide +kernel
theorem dX12_letters_287 : decode cX12_letters 287 = .ok (.bipush 111, 2) := by decide +kernel
theorem dX12_letters_289 : decode cX12_letters 289 = .ok (.bipush 114, 2) := by decide +kernel
theorem dX12_letters_291 : decode cX12_letters 291 = .ok (.bipush 103, 2) := by decide +kernel
theorem dX12_letters_293 : decode cX12_letters 293 = .ok (.bipush 101, 2) := by decide +kernel
theorem dX12_letters_295 : decode cX12_letters 295 = .ok (.bipush 116, 2) := by decide +kernel
theorem dX12_letters_297 : decode cX12_letters 297 = .ok (.bipush 115, 2) := by decide +kernel
theorem dX12_letters_299 : decode cX12_letters 299 = .ok (.invokestatic 150, 3) := by decide +kernel
theorem dX12_letters_302 : decode cX12_letters 302 = .ok (.lreturn, 1) := by decide +kernel
theorem dX12_letters_303 : decode cX12_letters 303 = .ok (.bipush 102, 2) := by decide +kernel
theorem dX12_letters_305 : decode cX12_letters 305 = .ok (.bipush 105, 2) := by decide +kernel
theorem dX12_letters_307 : decode cX12_letters 307 = .ok (.bipush 108, 2) := by decide +kernel
theorem dX12_letters_309 : decode cX12_letters 309 = .ok (.bipush 108, 2) := by decide +kernel
theorem dX12_letters_311 : decode cX12_letters 311 = .ok (.bipush 115, 2) := by decide +kernel
theorem dX12_letters_313 : decode cX12_letters 313 = .ok (.iconst 0, 1) := by decide +kernel
theorem dX12_letters_314 : decode cX12_letters 314 = .ok (.iconst 0, 1) := by decide +kernel
theorem dX12_letters_315 : decode cX12_letters 315 = .ok (.invokestatic 150, 3) := by decide +kernel
theorem dX12_letters_318 : decode cX12_letters 318 = .ok (.lreturn, 1) := by decide +kernel
theorem dX12_letters_319 : decode cX12_letters 319 = .ok (.bipush 97, 2) := by decide +kernel
theorem dX12_letters_321 : decode cX12_letters 321 = .ok (.bipush 110, 2) := by decide +kernel
theorem dX12_letters_323 : decode cX12_letters 323 = .ok (.bipush 100, 2) := by decide +kernel
theorem dX12_letters_325 : decode cX12_letters 325 = .ok (.iconst 0, 1) := by decide +kernel
theorem dX12_letters_326 : decode cX12_letters 326 = .ok (.iconst 0, 1) := by decide +kernel
theorem dX12_letters_327 : decode cX12_letters 327 = .ok (.iconst 0, 1) := by decide +kernel
theorem dX12_letters_328 : decode cX12_letters 328 = .ok (.iconst 0, 1) := by decide +kernel
theorem dX12_letters_329 : decode cX12_letters 329 = .ok (.invokestatic 150, 3) := by decide +kernel
theorem dX12_letters_332 : decode cX12_letters 332 = .ok (.lreturn, 1) := by decide +kernel
theorem dX12_letters_333 : decode cX12_letters 333 = .ok (.bipush 111, 2) := by decide +kernel
theorem dX12_letters_335 : decode cX12_letters 335 = .ok (.bipush 114, 2) := by decide +kernel
theorem dX12_letters_337 : decode cX12_letters 337 = .ok (.iconst 0, 1) := by decide +kernel
theorem dX12_letters_338 : decode cX12_letters 338 = .ok (.iconst 0, 1) := by decide +kernel
theorem dX12_letters_339 : decode cX12_letters 339 = .ok (.iconst 0, 1) := by decide +kernel
theorem dX12_letters_340 : decode cX12_letters 340 = .ok (.iconst 0, 1) := by decide +kernel
theorem dX12_letters_341 : decode cX12_letters 341 = .ok (.iconst 0, 1) := by decide +kernel
theorem dX12_letters_342 : decode cX12_letters 342 = .ok (.invokestatic 150, 3) := by decide +kernel
theorem dX12_letters_345 : decode cX12_letters 345 = .ok (.lreturn, 1) := by decide +kernel
theorem dX12_letters_346 : decode cX12_letters 346 = .ok (.bipush 110, 2) := by decide +kernel
theorem dX12_letters_348 : decode cX12_letters 348 = .ok (.bipush 111, 2) := by decide +kernel
theorem dX12_letters_350 : decode cX12_letters 350 = .ok (.bipush 116, 2) := by decide +kernel
theorem dX12_letters_352 : decode cX12_letters 352 = .ok (.iconst 0, 1) := by decide +kernel
theorem dX12_letters_353 : decode cX12_letters 353 = .ok (.iconst 0, 1) := by decide +kernel
theorem dX12_letters_354 : decode cX12_letters 354 = .ok (.iconst 0, 1) := by decide +kernel
theorem dX12_letters_355 : decode cX12_letters 355 = .ok (.iconst 0, 1) := by decide +kernel
theorem dX12_letters_356 : decode cX12_letters 356 = .ok (.invokestatic 150, 3) := by decide +kernel
theorem dX12_letters_359 : decode cX12_letters 359 = .ok (.lreturn, 1) := by decide +kernel
abbrev w_X12_letters (E : gs_E) : va_W := []
abbrev rm_X12_letters : Room := { frames := 1, cells := 0, slots := 0, locals := 28 }
def f_X12_letters (x0 : Int32) : Option (Int64) :=
  if x0 = 0 then
    gs_b1 (f_X12_spelled 109 101 109 111 114 121 0) fun r2 =>
    some r2
  else
    if x0 = 1 then
      gs_b1 (f_X12_spelled 110 111 116 101 0 0 0) fun r4 =>
      some r4
    else
      if x0 = 2 then
        gs_b1 (f_X12_spelled 103 97 112 115 0 0 0) fun r6 =>
        some r6
      else
        if x0 = 3 then
          gs_b1 (f_X12_spelled 119 105 116 104 0 0 0) fun r8 =>
          some r8
        else
          if x0 = 4 then
            gs_b1 (f_X12_spelled 119 105 116 0 0 0 0) fun r10 =>
            some r10
          else
            if x0 = 5 then
              gs_b1 (f_X12_spelled 112 108 97 99 101 0 0) fun r12 =>
              some r12
            else
              if x0 = 6 then
                gs_b1 (f_X12_spelled 100 97 121 0 0 0 0) fun r14 =>
                some r14
              else
                if x0 = 7 then
                  gs_b1 (f_X12_spelled 98 101 102 111 114 101 0) fun r16 =>
                  some r16
                else
                  if x0 = 8 then
                    gs_b1 (f_X12_spelled 97 102 116 101 114 0 0) fun r18 =>
                    some r18
                  else
                    if x0 = 9 then
                      gs_b1 (f_X12_spelled 115 111 110 103 0 0 0) fun r20 =>
                      some r20
                    else
                      if x0 = 10 then
                        gs_b1 (f_X12_spelled 112 101 114 115 111 110 0) fun r22 =>
                        some r22
                      else
                        if x0 = 11 then
                          gs_b1 (f_X12_spelled 104 97 115 0 0 0 0) fun r24 =>
                          some r24
                        else
                          if x0 = 12 then
                            gs_b1 (f_X12_spelled 115 101 101 107 115 0 0) fun r26 =>
                            some r26
                          else
                            if x0 = 13 then
                              gs_b1 (f_X12_spelled 102 111 114 103 101 116 115) fun r28 =>
                              some r28
                            else
                              if x0 = 14 then
                                gs_b1 (f_X12_spelled 102 105 108 108 115 0 0) fun r30 =>
                                some r30
                              else
                                if x0 = 15 then
                                  gs_b1 (f_X12_spelled 97 110 100 0 0 0 0) fun r32 =>
                                  some r32
                                else
                                  if x0 = 16 then
                                    gs_b1 (f_X12_spelled 111 114 0 0 0 0 0) fun r34 =>
                                    some r34
                                  else
                                    gs_b1 (f_X12_spelled 110 111 116 0 0 0 0) fun r35 =>
                                    some r35
set_option maxHeartbeats 4000000 in
set_option maxRecDepth 100000 in
theorem c_X12_letters (l : Launch) (E : gs_E) (x0 : Int32) (rr : Int64) (h : f_X12_letters x0 = some rr) : gs_MR l yX12_letters wsX12_letters rm_X12_letters [.int x0] E (w_X12_letters E ) (some (.long rr)) := by
  refine Met.ofW (cc := cX12_letters) (maxL := 1) (ret := (some .long)) (by decide) rfl ?_
  intro p e s m args below meth c s₁ B hml hv
  obtain ⟨rfl, hP, hk, hD0⟩ := hv
  have X0 : gs_X wsX12_letters cX12_letters RX12 1 (some .long) p s m ([.int x0] : List Value).toArray meth c := gs_X.of B hml
  obtain ⟨hx, hb, -, hown, hts, hr, hlk⟩ := id X0
  have hD := hD0
  have hret : ∀ (pc : Nat) (ls : Array Slot), decode cX12_letters pc = .ok (.lreturn, 1) → W p l e rm_X12_letters s m ([.int x0] : List Value).toArray below meth c s.heap [] 0 0 (MQ below (gs_QR (some (.long rr))) ([.int x0] : List Value).toArray s 0 0 (fun _ => False)) (F0 m pc ls [.long rr]) := fun pc ls hd => W.lret hx hb hr (fun t ht hW => ⟨rfl, ht⟩) (fun q hq => by cases hq) hd
  have hl := lv_entry ([.int x0]) (n := 1) (Nat.le_of_ble_eq_true rfl)
  rw [lg_entry_eq]
  generalize (lg_sl ([.int x0]) ++ List.replicate (1 - (lg_sl ([.int x0])).length) Slot.unset).toArray = ls at hl ⊢
  have hl : lv_has ls 1 [(0, .int x0)] := hl
  unfold f_X12_letters at h
  refine lv_iload_n hx hb dX12_letters_0 rfl (lv_at hl 0 rfl) ?_
  by_cases c1 : x0 = 0
  · replace h := gs_ift c1 h
    refine lv_tableIn (off := 83) (tgt := 84) hx hb dX12_letters_1 (by rw [c1]; decide) (by rw [c1]; decide) (by rw [c1]; decide) (by decide) ?_
    refine lv_bipush (v := 109) hx hb dX12_letters_84 (by decide) ?_
    refine lv_bipush (v := 101) hx hb dX12_letters_86 (by decide) ?_
    refine lv_bipush (v := 109) hx hb dX12_letters_88 (by decide) ?_
    refine lv_bipush (v := 111) hx hb dX12_letters_90 (by decide) ?_
    refine lv_bipush (v := 114) hx hb dX12_letters_92 (by decide) ?_
    refine lv_bipush (v := 121) hx hb dX12_letters_94 (by decide) ?_
    refine lv_iconst (v := 0) hx hb dX12_letters_96 (by decide) ?_
    obtain ⟨r2, hz2, h⟩ := gs_b1_e h
    refine gs_backRl (va_runS (As := [.int 109, .int 101, .int 109, .int 111, .int 114, .int 121, .int 0]) (rest := []) ⟨hx, hb, hml, hown, hts⟩ (c_X12_spelled l E 109 101 109 111 114 121 0 r2 hz2) (va_cwS 7 hts gX12_letters_X12_spelled rfl rfl rfl (by decide +kernel) ⟨Nat.le_of_ble_eq_true rfl, Nat.le_of_ble_eq_true rfl⟩) (gs_pre hk hP hD (is := []) rfl rfl) rfl rfl hl.1 rfl (lv_room (Nat.le_of_ble_eq_true rfl)) dX12_letters_97 ⟨Nat.zero_le _, Nat.zero_le _⟩) ?_
    have h := Option.some.inj h
    subst h
    exact hret _ _ dX12_letters_100
  replace h := gs_iff c1 h
  by_cases c3 : x0 = 1
  · replace h := gs_ift c3 h
    refine lv_tableIn (off := 100) (tgt := 101) hx hb dX12_letters_1 (by rw [c3]; decide) (by rw [c3]; decide) (by rw [c3]; decide) (by decide) ?_
    refine lv_bipush (v := 110) hx hb dX12_letters_101 (by decide) ?_
    refine lv_bipush (v := 111) hx hb dX12_letters_103 (by decide) ?_
    refine lv_bipush (v := 116) hx hb dX12_letters_105 (by decide) ?_
    refine lv_bipush (v := 101) hx hb dX12_letters_107 (by decide) ?_
    refine lv_iconst (v := 0) hx hb dX12_letters_109 (by decide) ?_
    refine lv_iconst (v := 0) hx hb dX12_letters_110 (by decide) ?_
    refine lv_iconst (v := 0) hx hb dX12_letters_111 (by decide) ?_
    obtain ⟨r4, hz4, h⟩ := gs_b1_e h
    refine gs_backRl (va_runS (As := [.int 110, .int 111, .int 116, .int 101, .int 0, .int 0, .int 0]) (rest := []) ⟨hx, hb, hml, hown, hts⟩ (c_X12_spelled l E 110 111 116 101 0 0 0 r4 hz4) (va_cwS 7 hts gX12_letters_X12_spelled rfl rfl rfl (by decide +kernel) ⟨Nat.le_of_ble_eq_true rfl, Nat.le_of_ble_eq_true rfl⟩) (gs_pre hk hP hD (is := []) rfl rfl) rfl rfl hl.1 rfl (lv_room (Nat.le_of_ble_eq_true rfl)) dX12_letters_112 ⟨Nat.zero_le _, Nat.zero_le _⟩) ?_
    have h := Option.some.inj h
    subst h
    exact hret _ _ dX12_letters_115
  replace h := gs_iff c3 h
  by_cases c5 : x0 = 2
  · replace h := gs_ift c5 h
    refine lv_tableIn (off := 115) (tgt := 116) hx hb dX12_letters_1 (by rw [c5]; decide) (by rw [c5]; decide) (by rw [c5]; decide) (by decide) ?_
    refine lv_bipush (v := 103) hx hb dX12_letters_116 (by decide) ?_
    refine lv_bipush (v := 97) hx hb dX12_letters_118 (by decide) ?_
    refine lv_bipush (v := 112) hx hb dX12_letters_120 (by decide) ?_
    refine lv_bipush (v := 115) hx hb dX12_letters_122 (by decide) ?_
    refine lv_iconst (v := 0) hx hb dX12_letters_124 (by decide) ?_
    refine lv_iconst (v := 0) hx hb dX12_letters_125 (by decide) ?_
    refine lv_iconst (v := 0) hx hb dX12_letters_126 (by decide) ?_
    obtain ⟨r6, hz6, h⟩ := gs_b1_e h
    refine gs_backRl (va_runS (As := [.int 103, .int 97, .int 112, .int 115, .int 0, .int 0, .int 0]) (rest := []) ⟨hx, hb, hml, hown, hts⟩ (c_X12_spelled l E 103 97 112 115 0 0 0 r6 hz6) (va_cwS 7 hts gX12_letters_X12_spelled rfl rfl rfl (by decide +kernel) ⟨Nat.le_of_ble_eq_true rfl, Nat.le_of_ble_eq_true rfl⟩) (gs_pre hk hP hD (is := []) rfl rfl) rfl rfl hl.1 rfl (lv_room (Nat.le_of_ble_eq_true rfl)) dX12_letters_127 ⟨Nat.zero_le _, Nat.zero_le _⟩) ?_
    have h := Option.some.inj h
    subst h
    exact hret _ _ dX12_letters_130
  replace h := gs_iff c5 h
  by_cases c7 : x0 = 3
  · replace h := gs_ift c7 h
    refine lv_tableIn (off := 130) (tgt := 131) hx hb dX12_letters_1 (by rw [c7]; decide) (by rw [c7]; decide) (by rw [c7]; decide) (by decide) ?_
    refine lv_bipush (v := 119) hx hb dX12_letters_131 (by decide) ?_
    refine lv_bipush (v := 105) hx hb dX12_letters_133 (by decide) ?_
    refine lv_bipush (v := 116) hx hb dX12_letters_135 (by decide) ?_
    refine lv_bipush (v := 104) hx hb dX12_letters_137 (by decide) ?_
    refine lv_iconst (v := 0) hx hb dX12_letters_139 (by decide) ?_
    refine lv_iconst (v := 0) hx hb dX12_letters_140 (by decide) ?_
    refine lv_iconst (v := 0) hx hb dX12_letters_141 (by decide) ?_
    obtain ⟨r8, hz8, h⟩ := gs_b1_e h
    refine gs_backRl (va_runS (As := [.int 119, .int 105, .int 116, .int 104, .int 0, .int 0, .int 0]) (rest := []) ⟨hx, hb, hml, hown, hts⟩ (c_X12_spelled l E 119 105 116 104 0 0 0 r8 hz8) (va_cwS 7 hts gX12_letters_X12_spelled rfl rfl rfl (by decide +kernel) ⟨Nat.le_of_ble_eq_true rfl, Nat.le_of_ble_eq_true rfl⟩) (gs_pre hk hP hD (is := []) rfl rfl) rfl rfl hl.1 rfl (lv_room (Nat.le_of_ble_eq_true rfl)) dX12_letters_142 ⟨Nat.zero_le _, Nat.zero_le _⟩) ?_
    have h := Option.some.inj h
    subst h
    exact hret _ _ dX12_letters_145
  replace h := gs_iff c7 h
  by_cases c9 : x0 = 4
  · replace h := gs_ift c9 h
    refine lv_tableIn (off := 145) (tgt := 146) hx hb dX12_letters_1 (by rw [c9]; decide) (by rw [c9]; decide) (by rw [c9]; decide) (by decide) ?_
    refine lv_bipush (v := 119) hx hb dX12_letters_146 (by decide) ?_
    refine lv_bipush (v := 105) hx hb dX12_letters_148 (by decide) ?_
    refine lv_bipush (v := 116) hx hb dX12_letters_150 (by decide) ?_
    refine lv_iconst (v := 0) hx hb dX12_letters_152 (by decide) ?_
    refine lv_iconst (v := 0) hx hb dX12_letters_153 (by decide) ?_
    refine lv_iconst (v := 0) hx hb dX12_letters_154 (by decide) ?_
    refine lv_iconst (v := 0) hx hb dX12_letters_155 (by decide) ?_
    obtain ⟨r10, hz10, h⟩ := gs_b1_e h
    refine gs_backRl (va_runS (As := [.int 119, .int 105, .int 116, .int 0, .int 0, .int 0, .int 0]) (rest := []) ⟨hx, hb, hml, hown, hts⟩ (c_X12_spelled l E 119 105 116 0 0 0 0 r10 hz10) (va_cwS 7 hts gX12_letters_X12_spelled rfl rfl rfl (by decide +kernel) ⟨Nat.le_of_ble_eq_true rfl, Nat.le_of_ble_eq_true rfl⟩) (gs_pre hk hP hD (is := []) rfl rfl) rfl rfl hl.1 rfl (lv_room (Nat.le_of_ble_eq_true rfl)) dX12_letters_156 ⟨Nat.zero_le _, Nat.zero_le _⟩) ?_
    have h := Option.some.inj h
    subst h
    exact hret _ _ dX12_letters_159
  replace h := gs_iff c9 h
  by_cases c11 : x0 = 5
  · replace h := gs_ift c11 h
    refine lv_tableIn (off := 159) (tgt := 160) hx hb dX12_letters_1 (by rw [c11]; decide) (by rw [c11]; decide) (by rw [c11]; decide) (by decide) ?_
    refine lv_bipush (v := 112) hx hb dX12_letters_160 (by decide) ?_
    refine lv_bipush (v := 108) hx hb dX12_letters_162 (by decide) ?_
    refine lv_bipush (v := 97) hx hb dX12_letters_164 (by decide) ?_
    refine lv_bipush (v := 99) hx hb dX12_letters_166 (by decide) ?_
    refine lv_bipush (v := 101) hx hb dX12_letters_168 (by decide) ?_
    refine lv_iconst (v := 0) hx hb dX12_letters_170 (by decide) ?_
    refine lv_iconst (v := 0) hx hb dX12_letters_171 (by decide) ?_
    obtain ⟨r12, hz12, h⟩ := gs_b1_e h
    refine gs_backRl (va_runS (As := [.int 112, .int 108, .int 97, .int 99, .int 101, .int 0, .int 0]) (rest := []) ⟨hx, hb, hml, hown, hts⟩ (c_X12_spelled l E 112 108 97 99 101 0 0 r12 hz12) (va_cwS 7 hts gX12_letters_X12_spelled rfl rfl rfl (by decide +kernel) ⟨Nat.le_of_ble_eq_true rfl, Nat.le_of_ble_eq_true rfl⟩) (gs_pre hk hP hD (is := []) rfl rfl) rfl rfl hl.1 rfl (lv_room (Nat.le_of_ble_eq_true rfl)) dX12_letters_172 ⟨Nat.zero_le _, Nat.zero_le _⟩) ?_
    have h := Option.some.inj h
    subst h
    exact hret _ _ dX12_letters_175
  replace h := gs_iff c11 h
  by_cases c13 : x0 = 6
  · replace h := gs_ift c13 h
    refine lv_tableIn (off := 175) (tgt := 176) hx hb dX12_letters_1 (by rw [c13]; decide) (by rw [c13]; decide) (by rw [c13]; decide) (by decide) ?_
    refine lv_bipush (v := 100) hx hb dX12_letters_176 (by decide) ?_
    refine lv_bipush (v := 97) hx hb dX12_letters_178 (by decide) ?_
    refine lv_bipush (v := 121) hx hb dX12_letters_180 (by decide) ?_
    refine lv_iconst (v := 0) hx hb dX12_letters_182 (by decide) ?_
    refine lv_iconst (v := 0) hx hb dX12_letters_183 (by decide) ?_
    refine lv_iconst (v := 0) hx hb dX12_letters_184 (by decide) ?_
    refine lv_iconst (v := 0) hx hb dX12_letters_185 (by decide) ?_
    obtain ⟨r14, hz14, h⟩ := gs_b1_e h
    refine gs_backRl (va_runS (As := [.int 100, .int 97, .int 121, .int 0, .int 0, .int 0, .int 0]) (rest := []) ⟨hx, hb, hml, hown, hts⟩ (c_X12_spelled l E 100 97 121 0 0 0 0 r14 hz14) (va_cwS 7 hts gX12_letters_X12_spelled rfl rfl rfl (by decide +kernel) ⟨Nat.le_of_ble_eq_true rfl, Nat.le_of_ble_eq_true rfl⟩) (gs_pre hk hP hD (is := []) rfl rfl) rfl rfl hl.1 rfl (lv_room (Nat.le_of_ble_eq_true rfl)) dX12_letters_186 ⟨Nat.zero_le _, Nat.zero_le _⟩) ?_
    have h := Option.some.inj h
    subst h
    exact hret _ _ dX12_letters_189
  replace h := gs_iff c13 h
  by_cases c15 : x0 = 7
  · replace h := gs_ift c15 h
    refine lv_tableIn (off := 189) (tgt := 190) hx hb dX12_letters_1 (by rw [c15]; decide) (by rw [c15]; decide) (by rw [c15]; decide) (by decide) ?_
    refine lv_bipush (v := 98) hx hb dX12_letters_190 (by decide) ?_
    refine lv_bipush (v := 101) hx hb dX12_letters_192 (by decide) ?_
    refine lv_bipush (v := 102) hx hb dX12_letters_194 (by decide) ?_
    refine lv_bipush (v := 111) hx hb dX12_letters_196 (by decide) ?_
    refine lv_bipush (v := 114) hx hb dX12_letters_198 (by decide) ?_
    refine lv_bipush (v := 101) hx hb dX12_letters_200 (by decide) ?_
    refine lv_iconst (v := 0) hx hb dX12_letters_202 (by decide) ?_
    obtain ⟨r16, hz16, h⟩ := gs_b1_e h
    refine gs_backRl (va_runS (As := [.int 98, .int 101, .int 102, .int 111, .int 114, .int 101, .int 0]) (rest := []) ⟨hx, hb, hml, hown, hts⟩ (c_X12_spelled l E 98 101 102 111 114 101 0 r16 hz16) (va_cwS 7 hts gX12_letters_X12_spelled rfl rfl rfl (by decide +kernel) ⟨Nat.le_of_ble_eq_true rfl, Nat.le_of_ble_eq_true rfl⟩) (gs_pre hk hP hD (is := []) rfl rfl) rfl rfl hl.1 rfl (lv_room (Nat.le_of_ble_eq_true rfl)) dX12_letters_203 ⟨Nat.zero_le _, Nat.zero_le _⟩) ?_
    have h := Option.some.inj h
    subst h
    exact hret _ _ dX12_letters_206
  replace h := gs_iff c15 h
  by_cases c17 : x0 = 8
  · replace h := gs_ift c17 h
    refine lv_tableIn (off := 206) (tgt := 207) hx hb dX12_letters_1 (by rw [c17]; decide) (by rw [c17]; decide) (by rw [c17]; decide) (by decide) ?_
    refine lv_bipush (v := 97) hx hb dX12_letters_207 (by decide) ?_
    refine lv_bipush (v := 102) hx hb dX12_letters_209 (by decide) ?_
    refine lv_bipush (v := 116) hx hb dX12_letters_211 (by decide) ?_
    refine lv_bipush (v := 101) hx hb dX12_letters_213 (by decide) ?_
    refine lv_bipush (v := 114) hx hb dX12_letters_215 (by decide) ?_
    refine lv_iconst (v := 0) hx hb dX12_letters_217 (by decide) ?_
    refine lv_iconst (v := 0) hx hb dX12_letters_218 (by decide) ?_
    obtain ⟨r18, hz18, h⟩ := gs_b1_e h
    refine gs_backRl (va_runS (As := [.int 97, .int 102, .int 116, .int 101, .int 114, .int 0, .int 0]) (rest := []) ⟨hx, hb, hml, hown, hts⟩ (c_X12_spelled l E 97 102 116 101 114 0 0 r18 hz18) (va_cwS 7 hts gX12_letters_X12_spelled rfl rfl rfl (by decide +kernel) ⟨Nat.le_of_ble_eq_true rfl, Nat.le_of_ble_eq_true rfl⟩) (gs_pre hk hP hD (is := []) rfl rfl) rfl rfl hl.1 rfl (lv_room (Nat.le_of_ble_eq_true rfl)) dX12_letters_219 ⟨Nat.zero_le _, Nat.zero_le _⟩) ?_
    have h := Option.some.inj h
    subst h
    exact hret _ _ dX12_letters_222
  replace h := gs_iff c17 h
  by_cases c19 : x0 = 9
  · replace h := gs_ift c19 h
    refine lv_tableIn (off := 222) (tgt := 223) hx hb dX12_letters_1 (by rw [c19]; decide) (by rw [c19]; decide) (by rw [c19]; decide) (by decide) ?_
    refine lv_bipush (v := 115) hx hb dX12_letters_223 (by decide) ?_
    refine lv_bipush (v := 111) hx hb dX12_letters_225 (by decide) ?_
    refine lv_bipush (v := 110) hx hb dX12_letters_227 (by decide) ?_
    refine lv_bipush (v := 103) hx hb dX12_letters_229 (by decide) ?_
    refine lv_iconst (v := 0) hx hb dX12_letters_231 (by decide) ?_
    refine lv_iconst (v := 0) hx hb dX12_letters_232 (by decide) ?_
    refine lv_iconst (v := 0) hx hb dX12_letters_233 (by decide) ?_
    obtain ⟨r20, hz20, h⟩ := gs_b1_e h
    refine gs_backRl (va_runS (As := [.int 115, .int 111, .int 110, .int 103, .int 0, .int 0, .int 0]) (rest := []) ⟨hx, hb, hml, hown, hts⟩ (c_X12_spelled l E 115 111 110 103 0 0 0 r20 hz20) (va_cwS 7 hts gX12_letters_X12_spelled rfl rfl rfl (by decide +kernel) ⟨Nat.le_of_ble_eq_true rfl, Nat.le_of_ble_eq_true rfl⟩) (gs_pre hk hP hD (is := []) rfl rfl) rfl rfl hl.1 rfl (lv_room (Nat.le_of_ble_eq_true rfl)) dX12_letters_234 ⟨Nat.zero_le _, Nat.zero_le _⟩) ?_
    have h := Option.some.inj h
    subst h
    exact hret _ _ dX12_letters_237
  replace h := gs_iff c19 h
  by_cases c21 : x0 = 10
  · replace h := gs_ift c21 h
    refine lv_tableIn (off := 237) (tgt := 238) hx hb dX12_letters_1 (by rw [c21]; decide) (by rw [c21]; decide) (by rw [c21]; decide) (by decide) ?_
    refine lv_bipush (v := 112) hx hb dX12_letters_238 (by decide) ?_
    refine lv_bipush (v := 101) hx hb dX12_letters_240 (by decide) ?_
    refine lv_bipush (v := 114) hx hb dX12_letters_242 (by decide) ?_
    refine lv_bipush (v := 115) hx hb dX12_letters_244 (by decide) ?_
    refine lv_bipush (v := 111) hx hb dX12_letters_246 (by decide) ?_
    refine lv_bipush (v := 110) hx hb dX12_letters_248 (by decide) ?_
    refine lv_iconst (v := 0) hx hb dX12_letters_250 (by decide) ?_
    obtain ⟨r22, hz22, h⟩ := gs_b1_e h
    refine gs_backRl (va_runS (As := [.int 112, .int 101, .int 114, .int 115, .int 111, .int 110, .int 0]) (rest := []) ⟨hx, hb, hml, hown, hts⟩ (c_X12_spelled l E 112 101 114 115 111 110 0 r22 hz22) (va_cwS 7 hts gX12_letters_X12_spelled rfl rfl rfl (by decide +kernel) ⟨Nat.le_of_ble_eq_true rfl, Nat.le_of_ble_eq_true rfl⟩) (gs_pre hk hP hD (is := []) rfl rfl) rfl rfl hl.1 rfl (lv_room (Nat.le_of_ble_eq_true rfl)) dX12_letters_251 ⟨Nat.zero_le _, Nat.zero_le _⟩) ?_
    have h := Option.some.inj h
    subst h
    exact hret _ _ dX12_letters_254
  replace h := gs_iff c21 h
  by_cases c23 : x0 = 11
  · replace h := gs_ift c23 h
    refine lv_tableIn (off := 254) (tgt := 255) hx hb dX12_letters_1 (by rw [c23]; decide) (by rw [c23]; decide) (by rw [c23]; decide) (by decide) ?_
    refine lv_bipush (v := 104) hx hb dX12_letters_255 (by decide) ?_
    refine lv_bipush (v := 97) hx hb dX12_letters_257 (by decide) ?_
    refine lv_bipush (v := 115) hx hb dX12_letters_259 (by decide) ?_
    refine lv_iconst (v := 0) hx hb dX12_letters_261 (by decide) ?_
    refine lv_iconst (v := 0) hx hb dX12_letters_262 (by decide) ?_
    refine lv_iconst (v := 0) hx hb dX12_letters_263 (by decide) ?_
    refine lv_iconst (v := 0) hx hb dX12_letters_264 (by decide) ?_
    obtain ⟨r24, hz24, h⟩ := gs_b1_e h
    refine gs_backRl (va_runS (As := [.int 104, .int 97, .int 115, .int 0, .int 0, .int 0, .int 0]) (rest := []) ⟨hx, hb, hml, hown, hts⟩ (c_X12_spelled l E 104 97 115 0 0 0 0 r24 hz24) (va_cwS 7 hts gX12_letters_X12_spelled rfl rfl rfl (by decide +kernel) ⟨Nat.le_of_ble_eq_true rfl, Nat.le_of_ble_eq_true rfl⟩) (gs_pre hk hP hD (is := []) rfl rfl) rfl rfl hl.1 rfl (lv_room (Nat.le_of_ble_eq_true rfl)) dX12_letters_265 ⟨Nat.zero_le _, Nat.zero_le _⟩) ?_
    have h := Option.some.inj h
    subst h
    exact hret _ _ dX12_letters_268
  replace h := gs_iff c23 h
  by_cases c25 : x0 = 12
  · replace h := gs_ift c25 h
    refine lv_tableIn (off := 268) (tgt := 269) hx hb dX12_letters_1 (by rw [c25]; decide) (by rw [c25]; decide) (by rw [c25]; decide) (by decide) ?_
    refine lv_bipush (v := 115) hx hb dX12_letters_269 (by decide) ?_
    refine lv_bipush (v := 101) hx hb dX12_letters_271 (by decide) ?_
    refine lv_bipush (v := 101) hx hb dX12_letters_273 (by decide) ?_
    refine lv_bipush (v := 107) hx hb dX12_letters_275 (by decide) ?_
    refine lv_bipush (v := 115) hx hb dX12_letters_277 (by decide) ?_
    refine lv_iconst (v := 0) hx hb dX12_letters_279 (by decide) ?_
    refine lv_iconst (v := 0) hx hb dX12_letters_280 (by decide) ?_
    obtain ⟨r26, hz26, h⟩ := gs_b1_e h
    refine gs_backRl (va_runS (As := [.int 115, .int 101, .int 101, .int 107, .int 115, .int 0, .int 0]) (rest := []) ⟨hx, hb, hml, hown, hts⟩ (c_X12_spelled l E 115 101 101 107 115 0 0 r26 hz26) (va_cwS 7 hts gX12_letters_X12_spelled rfl rfl rfl (by decide +kernel) ⟨Nat.le_of_ble_eq_true rfl, Nat.le_of_ble_eq_true rfl⟩) (gs_pre hk hP hD (is := []) rfl rfl) rfl rfl hl.1 rfl (lv_room (Nat.le_of_ble_eq_true rfl)) dX12_letters_281 ⟨Nat.zero_le _, Nat.zero_le _⟩) ?_
    have h := Option.some.inj h
    subst h
    exact hret _ _ dX12_letters_284
  replace h := gs_iff c25 h
  by_cases c27 : x0 = 13
  · replace h := gs_ift c27 h
    refine lv_tableIn (off := 284) (tgt := 285) hx hb dX12_letters_1 (by rw [c27]; decide) (by rw [c27]; decide) (by rw [c27]; decide) (by decide) ?_
    refine lv_bipush (v := 102) hx hb dX12_letters_285 (by decide) ?_
    refine lv_bipush (v := 111) hx hb dX12_letters_287 (by decide) ?_
    refine lv_bipush (v := 114) hx hb dX12_letters_289 (by decide) ?_
    refine lv_bipush (v := 103) hx hb dX12_letters_291 (by decide) ?_
    refine lv_bipush (v := 101) hx hb dX12_letters_293 (by decide) ?_
    refine lv_bipush (v := 116) hx hb dX12_letters_295 (by decide) ?_
    refine lv_bipush (v := 115) hx hb dX12_letters_297 (by decide) ?_
    obtain ⟨r28, hz28, h⟩ := gs_b1_e h
    refine gs_backRl (va_runS (As := [.int 102, .int 111, .int 114, .int 103, .int 101, .int 116, .int 115]) (rest := []) ⟨hx, hb, hml, hown, hts⟩ (c_X12_spelled l E 102 111 114 103 101 116 115 r28 hz28) (va_cwS 7 hts gX12_letters_X12_spelled rfl rfl rfl (by decide +kernel) ⟨Nat.le_of_ble_eq_true rfl, Nat.le_of_ble_eq_true rfl⟩) (gs_pre hk hP hD (is := []) rfl rfl) rfl rfl hl.1 rfl (lv_room (Nat.le_of_ble_eq_true rfl)) dX12_letters_299 ⟨Nat.zero_le _, Nat.zero_le _⟩) ?_
    have h := Option.some.inj h
    subst h
    exact hret _ _ dX12_letters_302
  replace h := gs_iff c27 h
  by_cases c29 : x0 = 14
  · replace h := gs_ift c29 h
    refine lv_tableIn (off := 302) (tgt := 303) hx hb dX12_letters_1 (by rw [c29]; decide) (by rw [c29]; decide) (by rw [c29]; decide) (by decide) ?_
    refine lv_bipush (v := 102) hx hb dX12_letters_303 (by decide) ?_
    refine lv_bipush (v := 105) hx hb dX12_letters_305 (by decide) ?_
    refine lv_bipush (v := 108) hx hb dX12_letters_307 (by decide) ?_
    refine lv_bipush (v := 108) hx hb dX12_letters_309 (by decide) ?_
    refine lv_bipush (v := 115) hx hb dX12_letters_311 (by decide) ?_
    refine lv_iconst (v := 0) hx hb dX12_letters_313 (by decide) ?_
    refine lv_iconst (v := 0) hx hb dX12_letters_314 (by decide) ?_
    obtain ⟨r30, hz30, h⟩ := gs_b1_e h
    refine gs_backRl (va_runS (As := [.int 102, .int 105, .int 108, .int 108, .int 115, .int 0, .int 0]) (rest := []) ⟨hx, hb, hml, hown, hts⟩ (c_X12_spelled l E 102 105 108 108 115 0 0 r30 hz30) (va_cwS 7 hts gX12_letters_X12_spelled rfl rfl rfl (by decide +kernel) ⟨Nat.le_of_ble_eq_true rfl, Nat.le_of_ble_eq_true rfl⟩) (gs_pre hk hP hD (is := []) rfl rfl) rfl rfl hl.1 rfl (lv_room (Nat.le_of_ble_eq_true rfl)) dX12_letters_315 ⟨Nat.zero_le _, Nat.zero_le _⟩) ?_
    have h := Option.some.inj h
    subst h
    exact hret _ _ dX12_letters_318
  replace h := gs_iff c29 h
  by_cases c31 : x0 = 15
  · replace h := gs_ift c31 h
    refine lv_tableIn (off := 318) (tgt := 319) hx hb dX12_letters_1 (by rw [c31]; decide) (by rw [c31]; decide) (by rw [c31]; decide) (by decide) ?_
    refine lv_bipush (v := 97) hx hb dX12_letters_319 (by decide) ?_
    refine lv_bipush (v := 110) hx hb dX12_letters_321 (by decide) ?_
    refine lv_bipush (v := 100) hx hb dX12_letters_323 (by decide) ?_
    refine lv_iconst (v := 0) hx hb dX12_letters_325 (by decide) ?_
    refine lv_iconst (v := 0) hx hb dX12_letters_326 (by decide) ?_
    refine lv_iconst (v := 0) hx hb dX12_letters_327 (by decide) ?_
    refine lv_iconst (v := 0) hx hb dX12_letters_328 (by decide) ?_
    obtain ⟨r32, hz32, h⟩ := gs_b1_e h
    refine gs_backRl (va_runS (As := [.int 97, .int 110, .int 100, .int 0, .int 0, .int 0, .int 0]) (rest := []) ⟨hx, hb, hml, hown, hts⟩ (c_X12_spelled l E 97 110 100 0 0 0 0 r32 hz32) (va_cwS 7 hts gX12_letters_X12_spelled rfl rfl rfl (by decide +kernel) ⟨Nat.le_of_ble_eq_true rfl, Nat.le_of_ble_eq_true rfl⟩) (gs_pre hk hP hD (is := []) rfl rfl) rfl rfl hl.1 rfl (lv_room (Nat.le_of_ble_eq_true rfl)) dX12_letters_329 ⟨Nat.zero_le _, Nat.zero_le _⟩) ?_
    have h := Option.some.inj h
    subst h
    exact hret _ _ dX12_letters_332
  replace h := gs_iff c31 h
  by_cases c33 : x0 = 16
  · replace h := gs_ift c33 h
    refine lv_tableIn (off := 332) (tgt := 333) hx hb dX12_letters_1 (by rw [c33]; decide) (by rw [c33]; decide) (by rw [c33]; decide) (by decide) ?_
    refine lv_bipush (v := 111) hx hb dX12_letters_333 (by decide) ?_
    refine lv_bipush (v := 114) hx hb dX12_letters_335 (by decide) ?_
    refine lv_iconst (v := 0) hx hb dX12_letters_337 (by decide) ?_
    refine lv_iconst (v := 0) hx hb dX12_letters_338 (by decide) ?_
    refine lv_iconst (v := 0) hx hb dX12_letters_339 (by decide) ?_
    refine lv_iconst (v := 0) hx hb dX12_letters_340 (by decide) ?_
    refine lv_iconst (v := 0) hx hb dX12_letters_341 (by decide) ?_
    obtain ⟨r34, hz34, h⟩ := gs_b1_e h
    refine gs_backRl (va_runS (As := [.int 111, .int 114, .int 0, .int 0, .int 0, .int 0, .int 0]) (rest := []) ⟨hx, hb, hml, hown, hts⟩ (c_X12_spelled l E 111 114 0 0 0 0 0 r34 hz34) (va_cwS 7 hts gX12_letters_X12_spelled rfl rfl rfl (by decide +kernel) ⟨Nat.le_of_ble_eq_true rfl, Nat.le_of_ble_eq_true rfl⟩) (gs_pre hk hP hD (is := []) rfl rfl) rfl rfl hl.1 rfl (lv_room (Nat.le_of_ble_eq_true rfl)) dX12_letters_342 ⟨Nat.zero_le _, Nat.zero_le _⟩) ?_
    have h := Option.some.inj h
    subst h
    exact hret _ _ dX12_letters_345
  replace h := gs_iff c33 h
  refine lv_tableOut (tgt := 346) hx hb dX12_letters_1 (by have e0 := lv_neT c1 (a := 0) (by decide); have e1 := lv_neT c3 (a := 1) (by decide); have e2 := lv_neT c5 (a := 2) (by decide); have e3 := lv_neT c7 (a := 3) (by decide); have e4 := lv_neT c9 (a := 4) (by decide); have e5 := lv_neT c11 (a := 5) (by decide); have e6 := lv_neT c13 (a := 6) (by decide); have e7 := lv_neT c15 (a := 7) (by decide); have e8 := lv_neT c17 (a := 8) (by decide); have e9 := lv_neT c19 (a := 9) (by decide); have e10 := lv_neT c21 (a := 10) (by decide); have e11 := lv_neT c23 (a := 11) (by decide); have e12 := lv_neT c25 (a := 12) (by decide); have e13 := lv_neT c27 (a := 13) (by decide); have e14 := lv_neT c29 (a := 14) (by decide); have e15 := lv_neT c31 (a := 15) (by decide); have e16 := lv_neT c33 (a := 16) (by decide); omega) (by decide) ?_
  refine lv_bipush (v := 110) hx hb dX12_letters_346 (by decide) ?_
  refine lv_bipush (v := 111) hx hb dX12_letters_348 (by decide) ?_
  refine lv_bipush (v := 116) hx hb dX12_letters_350 (by decide) ?_
  refine lv_iconst (v := 0) hx hb dX12_letters_352 (by decide) ?_
  refine lv_iconst (v := 0) hx hb dX12_letters_353 (by decide) ?_
  refine lv_iconst (v := 0) hx hb dX12_letters_354 (by decide) ?_
  refine lv_iconst (v := 0) hx hb dX12_letters_355 (by decide) ?_
  obtain ⟨r35, hz35, h⟩ := gs_b1_e h
  refine gs_backRl (va_runS (As := [.int 110, .int 111, .int 116, .int 0, .int 0, .int 0, .int 0]) (rest := []) ⟨hx, hb, hml, hown, hts⟩ (c_X12_spelled l E 110 111 116 0 0 0 0 r35 hz35) (va_cwS 7 hts gX12_letters_X12_spelled rfl rfl rfl (by decide +kernel) ⟨Nat.le_of_ble_eq_true rfl, Nat.le_of_ble_eq_true rfl⟩) (gs_pre hk hP hD (is := []) rfl rfl) rfl rfl hl.1 rfl (lv_room (Nat.le_of_ble_eq_true rfl)) dX12_letters_356 ⟨Nat.zero_le _, Nat.zero_le _⟩) ?_
  have h := Option.some.inj h
  subst h
  exact hret _ _ dX12_letters_359

set_option maxRecDepth 100000 in
theorem ggX12_knownWord_X12_letters : GoodIn wsX12_knownWord wsX12_letters := goodIn_r _ [7, 8, 9, 6, 10, 11] rfl (by decide +kernel)
set_option maxRecDepth 100000 in
theorem gX12_knownWord_X12_letters : GoodIn wsX12_knownWord (va_wsS RX12 154 yX12_letters wsX12_letters) := goodIn_app (goodIn_of _ (by decide +kernel)) ggX12_knownWord_X12_letters
theorem dX12_knownWord_0 : decode cX12_knownWord 0 = .ok (.aload_n 0, 1) := by decide +kernel
theorem dX12_knownWord_1 : decode cX12_knownWord 1 = .ok (.getfield 135, 3) := by decide +kernel
theorem dX12_knownWord_4 : decode cX12_knownWord 4 = .ok (.iconst 1, 1) := by decide +kernel
theorem dX12_knownWord_5 : decode cX12_knownWord 5 = .ok (.if_icmp .ne 12, 3) := by decide +kernel
theorem dX12_knownWord_8 : decode cX12_knownWord 8 = .ok (.aload_n 0, 1) := by decide +kernel
theorem dX12_knownWord_9 : decode cX12_knownWord 9 = .ok (.getfield 145, 3) := by decide +kernel
theorem dX12_knownWord_12 : decode cX12_knownWord 12 = .ok (.bipush 7, 2) := by decide +kernel
theorem dX12_knownWord_14 : decode cX12_knownWord 14 = .ok (.if_icmp .le 5, 3) := by decide +kernel
theorem dX12_knownWord_17 : decode cX12_knownWord 17 = .ok (.iconst (-1), 1) := by decide +kernel
theorem dX12_knownWord_18 : decode cX12_knownWord 18 = .ok (.ireturn, 1) := by decide +kernel
theorem dX12_knownWord_19 : decode cX12_knownWord 19 = .ok (.iconst 0, 1) := by decide +kernel
theorem dX12_knownWord_20 : decode cX12_knownWord 20 = .ok (.istore_n 1, 1) := by decide +kernel
theorem dX12_knownWord_21 : decode cX12_knownWord 21 = .ok (.iload_n 1, 1) := by decide +kernel
theorem dX12_knownWord_22 : decode cX12_knownWord 22 = .ok (.bipush 18, 2) := by decide +kernel
theorem dX12_knownWord_24 : decode cX12_knownWord 24 = .ok (.if_icmp .ge 23, 3) := by decide +kernel
theorem dX12_knownWord_27 : decode cX12_knownWord 27 = .ok (.iload_n 1, 1) := by decide +kernel
theorem dX12_knownWord_28 : decode cX12_knownWord 28 = .ok (.invokestatic 154, 3) := by decide +kernel
theorem dX12_knownWord_31 : decode cX12_knownWord 31 = .ok (.aload_n 0, 1) := by decide +kernel
theorem dX12_knownWord_32 : decode cX12_knownWord 32 = .ok (.getfield 125, 3) := by decide +kernel
theorem dX12_knownWord_35 : decode cX12_knownWord 35 = .ok (.lcmp, 1) := by decide +kernel
theorem dX12_knownWord_36 : decode cX12_knownWord 36 = .ok (.ifCond .ne 5, 3) := by decide +kernel
theorem dX12_knownWord_39 : decode cX12_knownWord 39 = .ok (.iload_n 1, 1) := by decide +kernel
theorem dX12_knownWord_40 : decode cX12_knownWord 40 = .ok (.ireturn, 1) := by decide +kernel
theorem dX12_knownWord_41 : decode cX12_knownWord 41 = .ok (.iinc 1 1, 3) := by decide +kernel
theorem dX12_knownWord_44 : decode cX12_knownWord 44 = .ok (.goto (-23), 3) := by decide +kernel
theorem dX12_knownWord_47 : decode cX12_knownWord 47 = .ok (.iconst (-1), 1) := by decide +kernel
theorem dX12_knownWord_48 : decode cX12_knownWord 48 = .ok (.ireturn, 1) := by decide +kernel
abbrev w_X12_knownWord (E : gs_E) (a_t a_t_songLong a_t_firstNote a_t_wit a_t_code a_t_tape a_t_refused a_t_newSongLong a_t_newFirstNote a_t_newWit a_t_newRow a_t_readCode a_t_waits a_t_tested a_t_isTold a_t_rows a_t_ahead a_t_told a_t_pile a_t_common a_t_mostOf a_t_likes a_t_heard a_t_soon a_t_soonAll a_t_imageRow a_t_imageAhead a_t_imageHears : Nat) (v_t_thrown : Int32) (v_t_songs : Int32) (v_t_people : Int32) (v_t_forgetsAt : Int32) (v_t_fillsAt : Int32) (v_t_taped : Int32) (v_t_faultKind : Int32) (v_t_faultPlace : Int32) (v_t_long1 : Int32) (v_t_next0 : Int32) (v_t_sort : Int32) (v_t_place : Int32) (v_t_long0 : Int32) (v_t_value : Int32) (v_t_sign : Int32) (v_t_word : Int64) (v_t_newSongs : Int32) (v_t_newPeople : Int32) (v_t_newForgetsAt : Int32) (v_t_newFillsAt : Int32) (v_t_top : Int32) (v_t_firstValue : Int32) (v_t_lastValue : Int32) (v_t_waiting : Int32) (v_t_depth : Int32) (v_t_acts : Int32) (v_t_isWinter : Int32) (v_t_learntNow : Int32) (v_t_forgottenNow : Int32) (v_t_heardMany : Int32) (v_t_its0 : Int32) (v_t_hasImage : Int32) (v_t_imageActs : Int32) (v_t_imageHeard : Int32) : va_W := [(a_t, .inr (12, [.int v_t_thrown, .int v_t_songs, .int v_t_people, .int v_t_forgetsAt, .int v_t_fillsAt, .ref a_t_songLong, .ref a_t_firstNote, .ref a_t_wit, .ref a_t_code, .ref a_t_tape, .int v_t_taped, .int v_t_faultKind, .int v_t_faultPlace, .ref a_t_refused, .int v_t_long1, .int v_t_next0, .int v_t_sort, .int v_t_place, .int v_t_long0, .int v_t_value, .int v_t_sign, .long v_t_word, .int v_t_newSongs, .int v_t_newPeople, .int v_t_newForgetsAt, .int v_t_newFillsAt, .int v_t_top, .int v_t_firstValue, .int v_t_lastValue, .int v_t_waiting, .int v_t_depth, .ref a_t_newSongLong, .ref a_t_newFirstNote, .ref a_t_newWit, .ref a_t_newRow, .ref a_t_readCode, .ref a_t_waits, .ref a_t_tested, .ref a_t_isTold, .ref a_t_rows, .ref a_t_ahead, .int v_t_acts, .ref a_t_told, .ref a_t_pile, .int v_t_isWinter, .int v_t_learntNow, .int v_t_forgottenNow, .ref a_t_common, .ref a_t_mostOf, .ref a_t_likes, .int v_t_heardMany, .ref a_t_heard, .ref a_t_soon, .ref a_t_soonAll, .int v_t_its0, .int v_t_hasImage, .int v_t_imageActs, .int v_t_imageHeard, .ref a_t_imageRow, .ref a_t_imageAhead, .ref a_t_imageHears]))]
abbrev rm_X12_knownWord : Room := { frames := 2, cells := 0, slots := 0, locals := 48 }
def S_X12_knownWord_21 (p : Program) (l : Launch) (e : Env) (s : State) (m : MethodId) (args : Array Value) (below : List Frame) (meth : Method) (c : Code) (Q : State → Prop) (a_t a_t_songLong a_t_firstNote a_t_wit a_t_code a_t_tape a_t_refused a_t_newSongLong a_t_newFirstNote a_t_newWit a_t_newRow a_t_readCode a_t_waits a_t_tested a_t_isTold a_t_rows a_t_ahead a_t_told a_t_pile a_t_common a_t_mostOf a_t_likes a_t_heard a_t_soon a_t_soonAll a_t_imageRow a_t_imageAhead a_t_imageHears : Nat) (x1 : Int32) : Prop := ∀ (ls : Array Slot), lv_has ls 2 [(0, .ref a_t), (1, .int x1)] → W p l e rm_X12_knownWord s m args below meth c s.heap [] 0 0 Q (F0 m 21 ls [])
def f_X12_knownWord_21 (v_t_word : Int64) (K21 : Int32 → Option (Int32)) (x1 : Int32) : Option (Int32) :=
  if 18 ≤ x1 then
    some (-1)
  else
    gs_b1 (f_X12_letters x1) fun r4 =>
    if (lg_cmp r4 v_t_word) = 0 then
      some x1
    else
      K21 (x1 + 1)
set_option maxHeartbeats 4000000 in
set_option maxRecDepth 100000 in
theorem t_X12_knownWord_21_b {p : Program} {l : Launch} {e : Env} {s : State} {m : MethodId} {args : Array Value} {below : List Frame} {meth : Method} {c : Code} {Q : State → Prop} {E : gs_E} {a_t a_t_songLong a_t_firstNote a_t_wit a_t_code a_t_tape a_t_refused a_t_newSongLong a_t_newFirstNote a_t_newWit a_t_newRow a_t_readCode a_t_waits a_t_tested a_t_isTold a_t_rows a_t_ahead a_t_told a_t_pile a_t_common a_t_mostOf a_t_likes a_t_heard a_t_soon a_t_soonAll a_t_imageRow a_t_imageAhead a_t_imageHears : Nat} {v_t_thrown : Int32} {v_t_songs : Int32} {v_t_people : Int32} {v_t_forgetsAt : Int32} {v_t_fillsAt : Int32} {v_t_taped : Int32} {v_t_faultKind : Int32} {v_t_faultPlace : Int32} {v_t_long1 : Int32} {v_t_next0 : Int32} {v_t_sort : Int32} {v_t_place : Int32} {v_t_long0 : Int32} {v_t_value : Int32} {v_t_sign : Int32} {v_t_word : Int64} {v_t_newSongs : Int32} {v_t_newPeople : Int32} {v_t_newForgetsAt : Int32} {v_t_newFillsAt : Int32} {v_t_top : Int32} {v_t_firstValue : Int32} {v_t_lastValue : Int32} {v_t_waiting : Int32} {v_t_depth : Int32} {v_t_acts : Int32} {v_t_isWinter : Int32} {v_t_learntNow : Int32} {v_t_forgottenNow : Int32} {v_t_heardMany : Int32} {v_t_its0 : Int32} {v_t_hasImage : Int32} {v_t_imageActs : Int32} {v_t_imageHeard : Int32} {rr : Int32} (X0 : gs_X wsX12_knownWord cX12_knownWord RX12 2 (some .int) p s m args meth c) (hk : gs_K E s) (hP : va_P E.1 vwCl (w_X12_knownWord E a_t a_t_songLong a_t_firstNote a_t_wit a_t_code a_t_tape a_t_refused a_t_newSongLong a_t_newFirstNote a_t_newWit a_t_newRow a_t_readCode a_t_waits a_t_tested a_t_isTold a_t_rows a_t_ahead a_t_told a_t_pile a_t_common a_t_mostOf a_t_likes a_t_heard a_t_soon a_t_soonAll a_t_imageRow a_t_imageAhead a_t_imageHears v_t_thrown v_t_songs v_t_people v_t_forgetsAt v_t_fillsAt v_t_taped v_t_faultKind v_t_faultPlace v_t_long1 v_t_next0 v_t_sort v_t_place v_t_long0 v_t_value v_t_sign v_t_word v_t_newSongs v_t_newPeople v_t_newForgetsAt v_t_newFillsAt v_t_top v_t_firstValue v_t_lastValue v_t_waiting v_t_depth v_t_acts v_t_isWinter v_t_learntNow v_t_forgottenNow v_t_heardMany v_t_its0 v_t_hasImage v_t_imageActs v_t_imageHeard) s.heap) (hD : va_D (fun _ => True) (w_X12_knownWord E a_t a_t_songLong a_t_firstNote a_t_wit a_t_code a_t_tape a_t_refused a_t_newSongLong a_t_newFirstNote a_t_newWit a_t_newRow a_t_readCode a_t_waits a_t_tested a_t_isTold a_t_rows a_t_ahead a_t_told a_t_pile a_t_common a_t_mostOf a_t_likes a_t_heard a_t_soon a_t_soonAll a_t_imageRow a_t_imageAhead a_t_imageHears v_t_thrown v_t_songs v_t_people v_t_forgetsAt v_t_fillsAt v_t_taped v_t_faultKind v_t_faultPlace v_t_long1 v_t_next0 v_t_sort v_t_place v_t_long0 v_t_value v_t_sign v_t_word v_t_newSongs v_t_newPeople v_t_newForgetsAt v_t_newFillsAt v_t_top v_t_firstValue v_t_lastValue v_t_waiting v_t_depth v_t_acts v_t_isWinter v_t_learntNow v_t_forgottenNow v_t_heardMany v_t_its0 v_t_hasImage v_t_imageActs v_t_imageHeard)) {x1 : Int32} (hret : ∀ (pc : Nat) (ls : Array Slot), decode cX12_knownWord pc = .ok (.ireturn, 1) → W p l e rm_X12_knownWord s m args below meth c s.heap [] 0 0 Q (F0 m pc ls [.int rr])) {K21 : Int32 → Option (Int32)} (hK21 : ∀ (x1 : Int32), K21 x1 = some rr → S_X12_knownWord_21 p l e s m args below meth c Q a_t a_t_songLong a_t_firstNote a_t_wit a_t_code a_t_tape a_t_refused a_t_newSongLong a_t_newFirstNote a_t_newWit a_t_newRow a_t_readCode a_t_waits a_t_tested a_t_isTold a_t_rows a_t_ahead a_t_told a_t_pile a_t_common a_t_mostOf a_t_likes a_t_heard a_t_soon a_t_soonAll a_t_imageRow a_t_imageAhead a_t_imageHears x1) (h : f_X12_knownWord_21 v_t_word K21 x1 = some rr) : S_X12_knownWord_21 p l e s m args below meth c Q a_t a_t_songLong a_t_firstNote a_t_wit a_t_code a_t_tape a_t_refused a_t_newSongLong a_t_newFirstNote a_t_newWit a_t_newRow a_t_readCode a_t_waits a_t_tested a_t_isTold a_t_rows a_t_ahead a_t_told a_t_pile a_t_common a_t_mostOf a_t_likes a_t_heard a_t_soon a_t_soonAll a_t_imageRow a_t_imageAhead a_t_imageHears x1 := by
  obtain ⟨hx, hb, hml, hown, hts, hr, hlk⟩ := id X0
  intro ls hl
  unfold f_X12_knownWord_21 at h
  refine lv_iload_n hx hb dX12_knownWord_21 rfl (lv_at hl 1 rfl) ?_
  refine lv_bipush (v := 18) hx hb dX12_knownWord_22 (by decide) ?_
  refine lv_icmp_ge (tgt := 47) hx hb dX12_knownWord_24 (by decide) (fun c3 => ?_) (fun c3 => ?_)
  · replace h := gs_ift c3 h
    refine lv_iconst (v := (-1)) hx hb dX12_knownWord_47 (by decide) ?_
    have h := Option.some.inj h
    subst h
    exact hret _ _ dX12_knownWord_48
  · replace h := gs_iff c3 h
    refine lv_iload_n hx hb dX12_knownWord_27 rfl (lv_at hl 1 rfl) ?_
    obtain ⟨r4, hz4, h⟩ := gs_b1_e h
    refine gs_backRl (va_runS (As := [.int x1]) (rest := []) ⟨hx, hb, hml, hown, hts⟩ (c_X12_letters l E x1 r4 hz4) (va_cwS 1 hts gX12_knownWord_X12_letters rfl rfl rfl (by decide +kernel) ⟨Nat.le_of_ble_eq_true rfl, Nat.le_of_ble_eq_true rfl⟩) (gs_pre hk hP hD (is := []) rfl rfl) rfl rfl hl.1 rfl (lv_room (Nat.le_of_ble_eq_true rfl)) dX12_knownWord_28 ⟨Nat.zero_le _, Nat.zero_le _⟩) ?_
    refine lv_aload_n hx hb dX12_knownWord_31 rfl (lv_at hl 0 rfl) ?_
    refine va_get (D := E.1) (ci := 12) (v := .long v_t_word) (C := RX12) (T := TX12) (N := 61) hx hb hts (fun _ h => (List.mem_cons_of_mem _ (List.mem_append_right _ h))) hown hk.1 hP 0 rfl rfl 21 (by decide) (hts (.fieldLink RX12 125 "GapSongsModel" "word" "J") (List.mem_cons_of_mem _ (List.mem_append_left _ (List.mem_of_getElem? (i := 2) rfl)))) (fun _ h9 => h9) rfl dX12_knownWord_32 ?_
    refine W.lcmp hx hb dX12_knownWord_35 ?_
    refine lv_if_ne (tgt := 41) hx hb dX12_knownWord_36 (by decide) (fun c5 => ?_) (fun c5 => ?_)
    · replace h := gs_iff c5 h
      refine lv_iinc (v := x1 + 1) (lv' := [(1, .int (x1 + 1)), (0, .ref a_t)]) hx hb dX12_knownWord_41 hl (k := 1) rfl rfl (by decide) rfl (fun ls hl => ?_)
      refine lv_goto (tgt := 21) hx hb dX12_knownWord_44 (by decide) ?_
      exact hK21 (x1 + 1) h _ (lv_sub hl [1, 0] rfl)
    · replace h := gs_ift c5 h
      refine lv_iload_n hx hb dX12_knownWord_39 rfl (lv_at hl 1 rfl) ?_
      have h := Option.some.inj h
      subst h
      exact hret _ _ dX12_knownWord_40
set_option maxHeartbeats 4000000 in
set_option maxRecDepth 100000 in
theorem t_X12_knownWord_21_n {p : Program} {l : Launch} {e : Env} {s : State} {m : MethodId} {args : Array Value} {below : List Frame} {meth : Method} {c : Code} {Q : State → Prop} {E : gs_E} {a_t a_t_songLong a_t_firstNote a_t_wit a_t_code a_t_tape a_t_refused a_t_newSongLong a_t_newFirstNote a_t_newWit a_t_newRow a_t_readCode a_t_waits a_t_tested a_t_isTold a_t_rows a_t_ahead a_t_told a_t_pile a_t_common a_t_mostOf a_t_likes a_t_heard a_t_soon a_t_soonAll a_t_imageRow a_t_imageAhead a_t_imageHears : Nat} {v_t_thrown : Int32} {v_t_songs : Int32} {v_t_people : Int32} {v_t_forgetsAt : Int32} {v_t_fillsAt : Int32} {v_t_taped : Int32} {v_t_faultKind : Int32} {v_t_faultPlace : Int32} {v_t_long1 : Int32} {v_t_next0 : Int32} {v_t_sort : Int32} {v_t_place : Int32} {v_t_long0 : Int32} {v_t_value : Int32} {v_t_sign : Int32} {v_t_word : Int64} {v_t_newSongs : Int32} {v_t_newPeople : Int32} {v_t_newForgetsAt : Int32} {v_t_newFillsAt : Int32} {v_t_top : Int32} {v_t_firstValue : Int32} {v_t_lastValue : Int32} {v_t_waiting : Int32} {v_t_depth : Int32} {v_t_acts : Int32} {v_t_isWinter : Int32} {v_t_learntNow : Int32} {v_t_forgottenNow : Int32} {v_t_heardMany : Int32} {v_t_its0 : Int32} {v_t_hasImage : Int32} {v_t_imageActs : Int32} {v_t_imageHeard : Int32} {rr : Int32} (X0 : gs_X wsX12_knownWord cX12_knownWord RX12 2 (some .int) p s m args meth c) (hk : gs_K E s) (hP : va_P E.1 vwCl (w_X12_knownWord E a_t a_t_songLong a_t_firstNote a_t_wit a_t_code a_t_tape a_t_refused a_t_newSongLong a_t_newFirstNote a_t_newWit a_t_newRow a_t_readCode a_t_waits a_t_tested a_t_isTold a_t_rows a_t_ahead a_t_told a_t_pile a_t_common a_t_mostOf a_t_likes a_t_heard a_t_soon a_t_soonAll a_t_imageRow a_t_imageAhead a_t_imageHears v_t_thrown v_t_songs v_t_people v_t_forgetsAt v_t_fillsAt v_t_taped v_t_faultKind v_t_faultPlace v_t_long1 v_t_next0 v_t_sort v_t_place v_t_long0 v_t_value v_t_sign v_t_word v_t_newSongs v_t_newPeople v_t_newForgetsAt v_t_newFillsAt v_t_top v_t_firstValue v_t_lastValue v_t_waiting v_t_depth v_t_acts v_t_isWinter v_t_learntNow v_t_forgottenNow v_t_heardMany v_t_its0 v_t_hasImage v_t_imageActs v_t_imageHeard) s.heap) (hD : va_D (fun _ => True) (w_X12_knownWord E a_t a_t_songLong a_t_firstNote a_t_wit a_t_code a_t_tape a_t_refused a_t_newSongLong a_t_newFirstNote a_t_newWit a_t_newRow a_t_readCode a_t_waits a_t_tested a_t_isTold a_t_rows a_t_ahead a_t_told a_t_pile a_t_common a_t_mostOf a_t_likes a_t_heard a_t_soon a_t_soonAll a_t_imageRow a_t_imageAhead a_t_imageHears v_t_thrown v_t_songs v_t_people v_t_forgetsAt v_t_fillsAt v_t_taped v_t_faultKind v_t_faultPlace v_t_long1 v_t_next0 v_t_sort v_t_place v_t_long0 v_t_value v_t_sign v_t_word v_t_newSongs v_t_newPeople v_t_newForgetsAt v_t_newFillsAt v_t_top v_t_firstValue v_t_lastValue v_t_waiting v_t_depth v_t_acts v_t_isWinter v_t_learntNow v_t_forgottenNow v_t_heardMany v_t_its0 v_t_hasImage v_t_imageActs v_t_imageHeard)) (hret : ∀ (pc : Nat) (ls : Array Slot), decode cX12_knownWord pc = .ok (.ireturn, 1) → W p l e rm_X12_knownWord s m args below meth c s.heap [] 0 0 Q (F0 m pc ls [.int rr])) : ∀ (n : Nat) (x1 : Int32), gs_it (fun _ => none) (f_X12_knownWord_21 v_t_word) n x1 = some rr → S_X12_knownWord_21 p l e s m args below meth c Q a_t a_t_songLong a_t_firstNote a_t_wit a_t_code a_t_tape a_t_refused a_t_newSongLong a_t_newFirstNote a_t_newWit a_t_newRow a_t_readCode a_t_waits a_t_tested a_t_isTold a_t_rows a_t_ahead a_t_told a_t_pile a_t_common a_t_mostOf a_t_likes a_t_heard a_t_soon a_t_soonAll a_t_imageRow a_t_imageAhead a_t_imageHears x1 := by
  intro n
  induction n with
  | zero =>
    intro x1 h
    have h : (none : Option (Int32)) = some rr := h
    cases h
  | succ n ih =>
    intro x1 h
    exact t_X12_knownWord_21_b X0 hk hP hD hret  (K21 := gs_it (fun _ => none) (f_X12_knownWord_21 v_t_word) n) (hK21 := ih) (h := h)
theorem t_X12_knownWord_21 {p : Program} {l : Launch} {e : Env} {s : State} {m : MethodId} {args : Array Value} {below : List Frame} {meth : Method} {c : Code} {Q : State → Prop} {E : gs_E} {a_t a_t_songLong a_t_firstNote a_t_wit a_t_code a_t_tape a_t_refused a_t_newSongLong a_t_newFirstNote a_t_newWit a_t_newRow a_t_readCode a_t_waits a_t_tested a_t_isTold a_t_rows a_t_ahead a_t_told a_t_pile a_t_common a_t_mostOf a_t_likes a_t_heard a_t_soon a_t_soonAll a_t_imageRow a_t_imageAhead a_t_imageHears : Nat} {v_t_thrown : Int32} {v_t_songs : Int32} {v_t_people : Int32} {v_t_forgetsAt : Int32} {v_t_fillsAt : Int32} {v_t_taped : Int32} {v_t_faultKind : Int32} {v_t_faultPlace : Int32} {v_t_long1 : Int32} {v_t_next0 : Int32} {v_t_sort : Int32} {v_t_place : Int32} {v_t_long0 : Int32} {v_t_value : Int32} {v_t_sign : Int32} {v_t_word : Int64} {v_t_newSongs : Int32} {v_t_newPeople : Int32} {v_t_newForgetsAt : Int32} {v_t_newFillsAt : Int32} {v_t_top : Int32} {v_t_firstValue : Int32} {v_t_lastValue : Int32} {v_t_waiting : Int32} {v_t_depth : Int32} {v_t_acts : Int32} {v_t_isWinter : Int32} {v_t_learntNow : Int32} {v_t_forgottenNow : Int32} {v_t_heardMany : Int32} {v_t_its0 : Int32} {v_t_hasImage : Int32} {v_t_imageActs : Int32} {v_t_imageHeard : Int32} {rr : Int32} (X0 : gs_X wsX12_knownWord cX12_knownWord RX12 2 (some .int) p s m args meth c) (hk : gs_K E s) (hP : va_P E.1 vwCl (w_X12_knownWord E a_t a_t_songLong a_t_firstNote a_t_wit a_t_code a_t_tape a_t_refused a_t_newSongLong a_t_newFirstNote a_t_newWit a_t_newRow a_t_readCode a_t_waits a_t_tested a_t_isTold a_t_rows a_t_ahead a_t_told a_t_pile a_t_common a_t_mostOf a_t_likes a_t_heard a_t_soon a_t_soonAll a_t_imageRow a_t_imageAhead a_t_imageHears v_t_thrown v_t_songs v_t_people v_t_forgetsAt v_t_fillsAt v_t_taped v_t_faultKind v_t_faultPlace v_t_long1 v_t_next0 v_t_sort v_t_place v_t_long0 v_t_value v_t_sign v_t_word v_t_newSongs v_t_newPeople v_t_newForgetsAt v_t_newFillsAt v_t_top v_t_firstValue v_t_lastValue v_t_waiting v_t_depth v_t_acts v_t_isWinter v_t_learntNow v_t_forgottenNow v_t_heardMany v_t_its0 v_t_hasImage v_t_imageActs v_t_imageHeard) s.heap) (hD : va_D (fun _ => True) (w_X12_knownWord E a_t a_t_songLong a_t_firstNote a_t_wit a_t_code a_t_tape a_t_refused a_t_newSongLong a_t_newFirstNote a_t_newWit a_t_newRow a_t_readCode a_t_waits a_t_tested a_t_isTold a_t_rows a_t_ahead a_t_told a_t_pile a_t_common a_t_mostOf a_t_likes a_t_heard a_t_soon a_t_soonAll a_t_imageRow a_t_imageAhead a_t_imageHears v_t_thrown v_t_songs v_t_people v_t_forgetsAt v_t_fillsAt v_t_taped v_t_faultKind v_t_faultPlace v_t_long1 v_t_next0 v_t_sort v_t_place v_t_long0 v_t_value v_t_sign v_t_word v_t_newSongs v_t_newPeople v_t_newForgetsAt v_t_newFillsAt v_t_top v_t_firstValue v_t_lastValue v_t_waiting v_t_depth v_t_acts v_t_isWinter v_t_learntNow v_t_forgottenNow v_t_heardMany v_t_its0 v_t_hasImage v_t_imageActs v_t_imageHeard)) {x1 : Int32} (hret : ∀ (pc : Nat) (ls : Array Slot), decode cX12_knownWord pc = .ok (.ireturn, 1) → W p l e rm_X12_knownWord s m args below meth c s.heap [] 0 0 Q (F0 m pc ls [.int rr])) (h : gs_it (fun _ => none) (f_X12_knownWord_21 v_t_word) gs_fuel x1 = some rr) : S_X12_knownWord_21 p l e s m args below meth c Q a_t a_t_songLong a_t_firstNote a_t_wit a_t_code a_t_tape a_t_refused a_t_newSongLong a_t_newFirstNote a_t_newWit a_t_newRow a_t_readCode a_t_waits a_t_tested a_t_isTold a_t_rows a_t_ahead a_t_told a_t_pile a_t_common a_t_mostOf a_t_likes a_t_heard a_t_soon a_t_soonAll a_t_imageRow a_t_imageAhead a_t_imageHears x1 :=
  t_X12_knownWord_21_n X0 hk hP hD hret  gs_fuel x1 h
def f_X12_knownWord (v_t_sort : Int32) (v_t_long0 : Int32) (v_t_word : Int64) : Option (Int32) :=
  if v_t_sort = 1 then
    if v_t_long0 ≤ 7 then
      gs_it (fun _ => none) (f_X12_knownWord_21 v_t_word) gs_fuel 0
    else
      some (-1)
  else
    some (-1)
set_option maxHeartbeats 4000000 in
set_option maxRecDepth 100000 in
theorem c_X12_knownWord (l : Launch) (E : gs_E) (a_t a_t_songLong a_t_firstNote a_t_wit a_t_code a_t_tape a_t_refused a_t_newSongLong a_t_newFirstNote a_t_newWit a_t_newRow a_t_readCode a_t_waits a_t_tested a_t_isTold a_t_rows a_t_ahead a_t_told a_t_pile a_t_common a_t_mostOf a_t_likes a_t_heard a_t_soon a_t_soonAll a_t_imageRow a_t_imageAhead a_t_imageHears : Nat) (v_t_thrown : Int32) (v_t_songs : Int32) (v_t_people : Int32) (v_t_forgetsAt : Int32) (v_t_fillsAt : Int32) (v_t_taped : Int32) (v_t_faultKind : Int32) (v_t_faultPlace : Int32) (v_t_long1 : Int32) (v_t_next0 : Int32) (v_t_sort : Int32) (v_t_place : Int32) (v_t_long0 : Int32) (v_t_value : Int32) (v_t_sign : Int32) (v_t_word : Int64) (v_t_newSongs : Int32) (v_t_newPeople : Int32) (v_t_newForgetsAt : Int32) (v_t_newFillsAt : Int32) (v_t_top : Int32) (v_t_firstValue : Int32) (v_t_lastValue : Int32) (v_t_waiting : Int32) (v_t_depth : Int32) (v_t_acts : Int32) (v_t_isWinter : Int32) (v_t_learntNow : Int32) (v_t_forgottenNow : Int32) (v_t_heardMany : Int32) (v_t_its0 : Int32) (v_t_hasImage : Int32) (v_t_imageActs : Int32) (v_t_imageHeard : Int32) (rr : Int32) (h : f_X12_knownWord v_t_sort v_t_long0 v_t_word = some rr) : gs_MR l yX12_knownWord wsX12_knownWord rm_X12_knownWord [.ref a_t] E (w_X12_knownWord E a_t a_t_songLong a_t_firstNote a_t_wit a_t_code a_t_tape a_t_refused a_t_newSongLong a_t_newFirstNote a_t_newWit a_t_newRow a_t_readCode a_t_waits a_t_tested a_t_isTold a_t_rows a_t_ahead a_t_told a_t_pile a_t_common a_t_mostOf a_t_likes a_t_heard a_t_soon a_t_soonAll a_t_imageRow a_t_imageAhead a_t_imageHears v_t_thrown v_t_songs v_t_people v_t_forgetsAt v_t_fillsAt v_t_taped v_t_faultKind v_t_faultPlace v_t_long1 v_t_next0 v_t_sort v_t_place v_t_long0 v_t_value v_t_sign v_t_word v_t_newSongs v_t_newPeople v_t_newForgetsAt v_t_newFillsAt v_t_top v_t_firstValue v_t_lastValue v_t_waiting v_t_depth v_t_acts v_t_isWinter v_t_learntNow v_t_forgottenNow v_t_heardMany v_t_its0 v_t_hasImage v_t_imageActs v_t_imageHeard) (some (.int rr)) := by
  refine Met.ofW (cc := cX12_knownWord) (maxL := 2) (ret := (some .int)) (by decide) rfl ?_
  intro p e s m args below meth c s₁ B hml hv
  obtain ⟨rfl, hP, hk, hD0⟩ := hv
  have X0 : gs_X wsX12_knownWord cX12_knownWord RX12 2 (some .int) p s m ([.ref a_t] : List Value).toArray meth c := gs_X.of B hml
  obtain ⟨hx, hb, -, hown, hts, hr, hlk⟩ := id X0
  have hD := hD0
  have hret : ∀ (pc : Nat) (ls : Array Slot), decode cX12_knownWord pc = .ok (.ireturn, 1) → W p l e rm_X12_knownWord s m ([.ref a_t] : List Value).toArray below meth c s.heap [] 0 0 (MQ below (gs_QR (some (.int rr))) ([.ref a_t] : List Value).toArray s 0 0 (fun _ => False)) (F0 m pc ls [.int rr]) := fun pc ls hd => W.iret hx hb hr (fun t ht hW => ⟨rfl, ht⟩) (fun q hq => by cases hq) hd
  have hl := lv_entry ([.ref a_t]) (n := 2) (Nat.le_of_ble_eq_true rfl)
  rw [lg_entry_eq]
  generalize (lg_sl ([.ref a_t]) ++ List.replicate (2 - (lg_sl ([.ref a_t])).length) Slot.unset).toArray = ls at hl ⊢
  have hl : lv_has ls 2 [(0, .ref a_t)] := hl
  unfold f_X12_knownWord at h
  refine lv_aload_n hx hb dX12_knownWord_0 rfl (lv_at hl 0 rfl) ?_
  refine va_get (D := E.1) (ci := 12) (v := .int v_t_sort) (C := RX12) (T := TX12) (N := 61) hx hb hts (fun _ h => (List.mem_cons_of_mem _ (List.mem_append_right _ h))) hown hk.1 hP 0 rfl rfl 16 (by decide) (hts (.fieldLink RX12 135 "GapSongsModel" "sort" "I") (List.mem_cons_of_mem _ (List.mem_append_left _ (List.mem_of_getElem? (i := 0) rfl)))) (fun _ h9 => h9) rfl dX12_knownWord_1 ?_
  refine lv_iconst (v := 1) hx hb dX12_knownWord_4 (by decide) ?_
  refine lv_icmp_ne (tgt := 17) hx hb dX12_knownWord_5 (by decide) (fun c1 => ?_) (fun c1 => ?_)
  · replace h := gs_iff c1 h
    refine lv_iconst (v := (-1)) hx hb dX12_knownWord_17 (by decide) ?_
    have h := Option.some.inj h
    subst h
    exact hret _ _ dX12_knownWord_18
  · replace h := gs_ift c1 h
    refine lv_aload_n hx hb dX12_knownWord_8 rfl (lv_at hl 0 rfl) ?_
    refine va_get (D := E.1) (ci := 12) (v := .int v_t_long0) (C := RX12) (T := TX12) (N := 61) hx hb hts (fun _ h => (List.mem_cons_of_mem _ (List.mem_append_right _ h))) hown hk.1 hP 0 rfl rfl 18 (by decide) (hts (.fieldLink RX12 145 "GapSongsModel" "long0" "I") (List.mem_cons_of_mem _ (List.mem_append_left _ (List.mem_of_getElem? (i := 1) rfl)))) (fun _ h9 => h9) rfl dX12_knownWord_9 ?_
    refine lv_bipush (v := 7) hx hb dX12_knownWord_12 (by decide) ?_
    refine lv_icmp_le (tgt := 19) hx hb dX12_knownWord_14 (by decide) (fun c2 => ?_) (fun c2 => ?_)
    · replace h := gs_ift c2 h
      refine lv_iconst (v := 0) hx hb dX12_knownWord_19 (by decide) ?_
      refine lv_istore_n (lv' := [(1, .int 0), (0, .ref a_t)]) hx hb dX12_knownWord_20 rfl hl (by decide) rfl (fun ls hl => ?_)
      exact t_X12_knownWord_21 X0 hk hP hD hret  (h := h) _ (lv_sub hl [1, 0] rfl)
    · replace h := gs_iff c2 h
      refine lv_iconst (v := (-1)) hx hb dX12_knownWord_17 (by decide) ?_
      have h := Option.some.inj h
      subst h
      exact hret _ _ dX12_knownWord_18

theorem dX12_wrong_0 : decode cX12_wrong 0 = .ok (.aload_n 0, 1) := by decide +kernel
theorem dX12_wrong_1 : decode cX12_wrong 1 = .ok (.getfield 158, 3) := by decide +kernel
theorem dX12_wrong_4 : decode cX12_wrong 4 = .ok (.ifCond .eq 4, 3) := by decide +kernel
theorem dX12_wrong_7 : decode cX12_wrong 7 = .ok (.return_, 1) := by decide +kernel
theorem dX12_wrong_8 : decode cX12_wrong 8 = .ok (.aload_n 0, 1) := by decide +kernel
theorem dX12_wrong_9 : decode cX12_wrong 9 = .ok (.iload_n 1, 1) := by decide +kernel
theorem dX12_wrong_10 : decode cX12_wrong 10 = .ok (.putfield 158, 3) := by decide +kernel
theorem dX12_wrong_13 : decode cX12_wrong 13 = .ok (.aload_n 0, 1) := by decide +kernel
theorem dX12_wrong_14 : decode cX12_wrong 14 = .ok (.aload_n 0, 1) := by decide +kernel
theorem dX12_wrong_15 : decode cX12_wrong 15 = .ok (.getfield 122, 3) := by decide +kernel
theorem dX12_wrong_18 : decode cX12_wrong 18 = .ok (.putfield 32, 3) := by decide +kernel
theorem dX12_wrong_21 : decode cX12_wrong 21 = .ok (.return_, 1) := by decide +kernel
abbrev w_X12_wrong (E : gs_E) (a_t a_t_songLong a_t_firstNote a_t_wit a_t_code a_t_tape a_t_refused a_t_newSongLong a_t_newFirstNote a_t_newWit a_t_newRow a_t_readCode a_t_waits a_t_tested a_t_isTold a_t_rows a_t_ahead a_t_told a_t_pile a_t_common a_t_mostOf a_t_likes a_t_heard a_t_soon a_t_soonAll a_t_imageRow a_t_imageAhead a_t_imageHears : Nat) (v_t_thrown : Int32) (v_t_songs : Int32) (v_t_people : Int32) (v_t_forgetsAt : Int32) (v_t_fillsAt : Int32) (v_t_taped : Int32) (v_t_faultKind : Int32) (v_t_faultPlace : Int32) (v_t_long1 : Int32) (v_t_next0 : Int32) (v_t_sort : Int32) (v_t_place : Int32) (v_t_long0 : Int32) (v_t_value : Int32) (v_t_sign : Int32) (v_t_word : Int64) (v_t_newSongs : Int32) (v_t_newPeople : Int32) (v_t_newForgetsAt : Int32) (v_t_newFillsAt : Int32) (v_t_top : Int32) (v_t_firstValue : Int32) (v_t_lastValue : Int32) (v_t_waiting : Int32) (v_t_depth : Int32) (v_t_acts : Int32) (v_t_isWinter : Int32) (v_t_learntNow : Int32) (v_t_forgottenNow : Int32) (v_t_heardMany : Int32) (v_t_its0 : Int32) (v_t_hasImage : Int32) (v_t_imageActs : Int32) (v_t_imageHeard : Int32) : va_W := [(a_t, .inr (12, [.int v_t_thrown, .int v_t_songs, .int v_t_people, .int v_t_forgetsAt, .int v_t_fillsAt, .ref a_t_songLong, .ref a_t_firstNote, .ref a_t_wit, .ref a_t_code, .ref a_t_tape, .int v_t_taped, .int v_t_faultKind, .int v_t_faultPlace, .ref a_t_refused, .int v_t_long1, .int v_t_next0, .int v_t_sort, .int v_t_place, .int v_t_long0, .int v_t_value, .int v_t_sign, .long v_t_word, .int v_t_newSongs, .int v_t_newPeople, .int v_t_newForgetsAt, .int v_t_newFillsAt, .int v_t_top, .int v_t_firstValue, .int v_t_lastValue, .int v_t_waiting, .int v_t_depth, .ref a_t_newSongLong, .ref a_t_newFirstNote, .ref a_t_newWit, .ref a_t_newRow, .ref a_t_readCode, .ref a_t_waits, .ref a_t_tested, .ref a_t_isTold, .ref a_t_rows, .ref a_t_ahead, .int v_t_acts, .ref a_t_told, .ref a_t_pile, .int v_t_isWinter, .int v_t_learntNow, .int v_t_forgottenNow, .ref a_t_common, .ref a_t_mostOf, .ref a_t_likes, .int v_t_heardMany, .ref a_t_heard, .ref a_t_soon, .ref a_t_soonAll, .int v_t_its0, .int v_t_hasImage, .int v_t_imageActs, .int v_t_imageHeard, .ref a_t_imageRow, .ref a_t_imageAhead, .ref a_t_imageHears]))]
abbrev rm_X12_wrong : Room := { frames := 0, cells := 0, slots := 0, locals := 0 }
def f_X12_wrong (x1 : Int32) (v_t_faultKind : Int32) (v_t_faultPlace : Int32) (v_t_place : Int32) : Option (Int32 × Int32) :=
  if v_t_faultKind = 0 then
    some (x1, v_t_place)
  else
    some (v_t_faultKind, v_t_faultPlace)
set_option maxHeartbeats 4000000 in
set_option maxRecDepth 100000 in
theorem c_X12_wrong (l : Launch) (E : gs_E) (a_t a_t_songLong a_t_firstNote a_t_wit a_t_code a_t_tape a_t_refused a_t_newSongLong a_t_newFirstNote a_t_newWit a_t_newRow a_t_readCode a_t_waits a_t_tested a_t_isTold a_t_rows a_t_ahead a_t_told a_t_pile a_t_common a_t_mostOf a_t_likes a_t_heard a_t_soon a_t_soonAll a_t_imageRow a_t_imageAhead a_t_imageHears : Nat) (v_t_thrown : Int32) (v_t_songs : Int32) (v_t_people : Int32) (v_t_forgetsAt : Int32) (v_t_fillsAt : Int32) (v_t_taped : Int32) (v_t_faultKind : Int32) (v_t_faultPlace : Int32) (v_t_long1 : Int32) (v_t_next0 : Int32) (v_t_sort : Int32) (v_t_place : Int32) (v_t_long0 : Int32) (v_t_value : Int32) (v_t_sign : Int32) (v_t_word : Int64) (v_t_newSongs : Int32) (v_t_newPeople : Int32) (v_t_newForgetsAt : Int32) (v_t_newFillsAt : Int32) (v_t_top : Int32) (v_t_firstValue : Int32) (v_t_lastValue : Int32) (v_t_waiting : Int32) (v_t_depth : Int32) (v_t_acts : Int32) (v_t_isWinter : Int32) (v_t_learntNow : Int32) (v_t_forgottenNow : Int32) (v_t_heardMany : Int32) (v_t_its0 : Int32) (v_t_hasImage : Int32) (v_t_imageActs : Int32) (v_t_imageHeard : Int32) (x1 : Int32) (o_t_faultKind : Int32) (o_t_faultPlace : Int32) (h : f_X12_wrong x1 v_t_faultKind v_t_faultPlace v_t_place = some (o_t_faultKind, o_t_faultPlace)) : gs_MW l yX12_wrong wsX12_wrong rm_X12_wrong [.ref a_t, .int x1] E (w_X12_wrong E a_t a_t_songLong a_t_firstNote a_t_wit a_t_code a_t_tape a_t_refused a_t_newSongLong a_t_newFirstNote a_t_newWit a_t_newRow a_t_readCode a_t_waits a_t_tested a_t_isTold a_t_rows a_t_ahead a_t_told a_t_pile a_t_common a_t_mostOf a_t_likes a_t_heard a_t_soon a_t_soonAll a_t_imageRow a_t_imageAhead a_t_imageHears v_t_thrown v_t_songs v_t_people v_t_forgetsAt v_t_fillsAt v_t_taped v_t_faultKind v_t_faultPlace v_t_long1 v_t_next0 v_t_sort v_t_place v_t_long0 v_t_value v_t_sign v_t_word v_t_newSongs v_t_newPeople v_t_newForgetsAt v_t_newFillsAt v_t_top v_t_firstValue v_t_lastValue v_t_waiting v_t_depth v_t_acts v_t_isWinter v_t_learntNow v_t_forgottenNow v_t_heardMany v_t_its0 v_t_hasImage v_t_imageActs v_t_imageHeard) (w_X12_wrong E a_t a_t_songLong a_t_firstNote a_t_wit a_t_code a_t_tape a_t_refused a_t_newSongLong a_t_newFirstNote a_t_newWit a_t_newRow a_t_readCode a_t_waits a_t_tested a_t_isTold a_t_rows a_t_ahead a_t_told a_t_pile a_t_common a_t_mostOf a_t_likes a_t_heard a_t_soon a_t_soonAll a_t_imageRow a_t_imageAhead a_t_imageHears v_t_thrown v_t_songs v_t_people v_t_forgetsAt v_t_fillsAt v_t_taped o_t_faultKind o_t_faultPlace v_t_long1 v_t_next0 v_t_sort v_t_place v_t_long0 v_t_value v_t_sign v_t_word v_t_newSongs v_t_newPeople v_t_newForgetsAt v_t_newFillsAt v_t_top v_t_firstValue v_t_lastValue v_t_waiting v_t_depth v_t_acts v_t_isWinter v_t_learntNow v_t_forgottenNow v_t_heardMany v_t_its0 v_t_hasImage v_t_imageActs v_t_imageHeard) none := by
  refine Met.ofW (cc := cX12_wrong) (maxL := 2) (ret := none) (by decide) rfl ?_
  intro p e s m args below meth c s₁ B hml hv
  obtain ⟨rfl, hP, hk, hD0⟩ := hv
  have X0 : gs_X wsX12_wrong cX12_wrong RX12 2 none p s m ([.ref a_t, .int x1] : List Value).toArray meth c := gs_X.of B hml
  obtain ⟨hx, hb, -, hown, hts, hr, hlk⟩ := id X0
  have hD := (gs_D_self hD0)
  generalize hAe : gs_w (w_X12_wrong E a_t a_t_songLong a_t_firstNote a_t_wit a_t_code a_t_tape a_t_refused a_t_newSongLong a_t_newFirstNote a_t_newWit a_t_newRow a_t_readCode a_t_waits a_t_tested a_t_isTold a_t_rows a_t_ahead a_t_told a_t_pile a_t_common a_t_mostOf a_t_likes a_t_heard a_t_soon a_t_soonAll a_t_imageRow a_t_imageAhead a_t_imageHears v_t_thrown v_t_songs v_t_people v_t_forgetsAt v_t_fillsAt v_t_taped v_t_faultKind v_t_faultPlace v_t_long1 v_t_next0 v_t_sort v_t_place v_t_long0 v_t_value v_t_sign v_t_word v_t_newSongs v_t_newPeople v_t_newForgetsAt v_t_newFillsAt v_t_top v_t_firstValue v_t_lastValue v_t_waiting v_t_depth v_t_acts v_t_isWinter v_t_learntNow v_t_forgottenNow v_t_heardMany v_t_its0 v_t_hasImage v_t_imageActs v_t_imageHeard) = A at hD ⊢
  have hS : va_S A s.heap s.heap [] := va_S.rf
  have hret : ∀ (H : Heap) (locs : List Loc) (pc : Nat) (ls : Array Slot), va_P E.1 vwCl (w_X12_wrong E a_t a_t_songLong a_t_firstNote a_t_wit a_t_code a_t_tape a_t_refused a_t_newSongLong a_t_newFirstNote a_t_newWit a_t_newRow a_t_readCode a_t_waits a_t_tested a_t_isTold a_t_rows a_t_ahead a_t_told a_t_pile a_t_common a_t_mostOf a_t_likes a_t_heard a_t_soon a_t_soonAll a_t_imageRow a_t_imageAhead a_t_imageHears v_t_thrown v_t_songs v_t_people v_t_forgetsAt v_t_fillsAt v_t_taped o_t_faultKind o_t_faultPlace v_t_long1 v_t_next0 v_t_sort v_t_place v_t_long0 v_t_value v_t_sign v_t_word v_t_newSongs v_t_newPeople v_t_newForgetsAt v_t_newFillsAt v_t_top v_t_firstValue v_t_lastValue v_t_waiting v_t_depth v_t_acts v_t_isWinter v_t_learntNow v_t_forgottenNow v_t_heardMany v_t_its0 v_t_hasImage v_t_imageActs v_t_imageHeard) H → va_S A s.heap H locs → decode cX12_wrong pc = .ok (.return_, 1) → W p l e rm_X12_wrong s m ([.ref a_t, .int x1] : List Value).toArray below meth c H locs 0 0 (MQ below (gs_QWA E A (w_X12_wrong E a_t a_t_songLong a_t_firstNote a_t_wit a_t_code a_t_tape a_t_refused a_t_newSongLong a_t_newFirstNote a_t_newWit a_t_newRow a_t_readCode a_t_waits a_t_tested a_t_isTold a_t_rows a_t_ahead a_t_told a_t_pile a_t_common a_t_mostOf a_t_likes a_t_heard a_t_soon a_t_soonAll a_t_imageRow a_t_imageAhead a_t_imageHears v_t_thrown v_t_songs v_t_people v_t_forgetsAt v_t_fillsAt v_t_taped o_t_faultKind o_t_faultPlace v_t_long1 v_t_next0 v_t_sort v_t_place v_t_long0 v_t_value v_t_sign v_t_word v_t_newSongs v_t_newPeople v_t_newForgetsAt v_t_newFillsAt v_t_top v_t_firstValue v_t_lastValue v_t_waiting v_t_depth v_t_acts v_t_isWinter v_t_learntNow v_t_forgottenNow v_t_heardMany v_t_its0 v_t_hasImage v_t_imageActs v_t_imageHeard) none) ([.ref a_t, .int x1] : List Value).toArray s 0 0 A) (F0 m pc ls []) := fun H locs pc ls hP hS hd => W.vret hx hb hr (fun t ht hW => ⟨rfl, by rw [ht]; exact hP, hS.F ht⟩) hS.2.2 hd
  have hl := lv_entry ([.ref a_t, .int x1]) (n := 2) (Nat.le_of_ble_eq_true rfl)
  rw [lg_entry_eq]
  generalize (lg_sl ([.ref a_t, .int x1]) ++ List.replicate (2 - (lg_sl ([.ref a_t, .int x1])).length) Slot.unset).toArray = ls at hl ⊢
  have hl : lv_has ls 2 [(0, .ref a_t), (1, .int x1)] := hl
  unfold f_X12_wrong at h
  refine lv_aload_n hx hb dX12_wrong_0 rfl (lv_at hl 0 rfl) ?_
  refine va_get (D := E.1) (ci := 12) (v := .int v_t_faultKind) (C := RX12) (T := TX12) (N := 61) hx hb hts (fun _ h => (List.mem_cons_of_mem _ (List.mem_append_right _ h))) hown hk.1 hP 0 rfl rfl 11 (by decide) (hts (.fieldLink RX12 158 "GapSongsModel" "faultKind" "I") (List.mem_cons_of_mem _ (List.mem_append_left _ (List.mem_of_getElem? (i := 0) rfl)))) (fun _ h9 => h9) rfl dX12_wrong_1 ?_
  refine lv_if_eq (tgt := 8) hx hb dX12_wrong_4 (by decide) (fun c1 => ?_) (fun c1 => ?_)
  · replace h := gs_ift c1 h
    refine lv_aload_n hx hb dX12_wrong_8 rfl (lv_at hl 0 rfl) ?_
    refine lv_iload_n hx hb dX12_wrong_9 rfl (lv_at hl 1 rfl) ?_
    refine va_put (D := E.1) (ci := 12) (v := .int x1) (ty := .int) (C := RX12) (T := TX12) (N := 61) hx hb hts (fun _ h => (List.mem_cons_of_mem _ (List.mem_append_right _ h))) tyX12 tyX12_ok nmX12 hown hk.1 hP hD hS 0 rfl rfl 11 (by decide) (hts (.fieldLink RX12 158 "GapSongsModel" "faultKind" "I") (List.mem_cons_of_mem _ (List.mem_append_left _ (List.mem_of_getElem? (i := 0) rfl)))) (fun _ h9 => h9) rfl (by decide +kernel) rfl rfl (Nat.le_of_ble_eq_true rfl) dX12_wrong_10 (fun H locs hP hD hS => ?_)
    have hP : va_P E.1 vwCl (w_X12_wrong E a_t a_t_songLong a_t_firstNote a_t_wit a_t_code a_t_tape a_t_refused a_t_newSongLong a_t_newFirstNote a_t_newWit a_t_newRow a_t_readCode a_t_waits a_t_tested a_t_isTold a_t_rows a_t_ahead a_t_told a_t_pile a_t_common a_t_mostOf a_t_likes a_t_heard a_t_soon a_t_soonAll a_t_imageRow a_t_imageAhead a_t_imageHears v_t_thrown v_t_songs v_t_people v_t_forgetsAt v_t_fillsAt v_t_taped x1 v_t_faultPlace v_t_long1 v_t_next0 v_t_sort v_t_place v_t_long0 v_t_value v_t_sign v_t_word v_t_newSongs v_t_newPeople v_t_newForgetsAt v_t_newFillsAt v_t_top v_t_firstValue v_t_lastValue v_t_waiting v_t_depth v_t_acts v_t_isWinter v_t_learntNow v_t_forgottenNow v_t_heardMany v_t_its0 v_t_hasImage v_t_imageActs v_t_imageHeard) H := hP
    have hD : va_D A (w_X12_wrong E a_t a_t_songLong a_t_firstNote a_t_wit a_t_code a_t_tape a_t_refused a_t_newSongLong a_t_newFirstNote a_t_newWit a_t_newRow a_t_readCode a_t_waits a_t_tested a_t_isTold a_t_rows a_t_ahead a_t_told a_t_pile a_t_common a_t_mostOf a_t_likes a_t_heard a_t_soon a_t_soonAll a_t_imageRow a_t_imageAhead a_t_imageHears v_t_thrown v_t_songs v_t_people v_t_forgetsAt v_t_fillsAt v_t_taped x1 v_t_faultPlace v_t_long1 v_t_next0 v_t_sort v_t_place v_t_long0 v_t_value v_t_sign v_t_word v_t_newSongs v_t_newPeople v_t_newForgetsAt v_t_newFillsAt v_t_top v_t_firstValue v_t_lastValue v_t_waiting v_t_depth v_t_acts v_t_isWinter v_t_learntNow v_t_forgottenNow v_t_heardMany v_t_its0 v_t_hasImage v_t_imageActs v_t_imageHeard) := hD
    refine lv_aload_n hx hb dX12_wrong_13 rfl (lv_at hl 0 rfl) ?_
    refine lv_aload_n hx hb dX12_wrong_14 rfl (lv_at hl 0 rfl) ?_
    refine va_get (D := E.1) (ci := 12) (v := .int v_t_place) (C := RX12) (T := TX12) (N := 61) hx hb hts (fun _ h => (List.mem_cons_of_mem _ (List.mem_append_right _ h))) hown hk.1 hP 0 rfl rfl 17 (by decide) (hts (.fieldLink RX12 122 "GapSongsModel" "place" "I") (List.mem_cons_of_mem _ (List.mem_append_left _ (List.mem_of_getElem? (i := 1) rfl)))) (fun _ h9 => h9) rfl dX12_wrong_15 ?_
    refine va_put (D := E.1) (ci := 12) (v := .int v_t_place) (ty := .int) (C := RX12) (T := TX12) (N := 61) hx hb hts (fun _ h => (List.mem_cons_of_mem _ (List.mem_append_right _ h))) tyX12 tyX12_ok nmX12 hown hk.1 hP hD hS 0 rfl rfl 12 (by decide) (hts (.fieldLink RX12 32 "GapSongsModel" "faultPlace" "I") (List.mem_cons_of_mem _ (List.mem_append_left _ (List.mem_of_getElem? (i := 2) rfl)))) (fun _ h9 => h9) rfl (by decide +kernel) rfl rfl (Nat.le_of_ble_eq_true rfl) dX12_wrong_18 (fun H locs hP hD hS => ?_)
    have hP : va_P E.1 vwCl (w_X12_wrong E a_t a_t_songLong a_t_firstNote a_t_wit a_t_code a_t_tape a_t_refused a_t_newSongLong a_t_newFirstNote a_t_newWit a_t_newRow a_t_readCode a_t_waits a_t_tested a_t_isTold a_t_rows a_t_ahead a_t_told a_t_pile a_t_common a_t_mostOf a_t_likes a_t_heard a_t_soon a_t_soonAll a_t_imageRow a_t_imageAhead a_t_imageHears v_t_thrown v_t_songs v_t_people v_t_forgetsAt v_t_fillsAt v_t_taped x1 v_t_place v_t_long1 v_t_next0 v_t_sort v_t_place v_t_long0 v_t_value v_t_sign v_t_word v_t_newSongs v_t_newPeople v_t_newForgetsAt v_t_newFillsAt v_t_top v_t_firstValue v_t_lastValue v_t_waiting v_t_depth v_t_acts v_t_isWinter v_t_learntNow v_t_forgottenNow v_t_heardMany v_t_its0 v_t_hasImage v_t_imageActs v_t_imageHeard) H := hP
    have hD : va_D A (w_X12_wrong E a_t a_t_songLong a_t_firstNote a_t_wit a_t_code a_t_tape a_t_refused a_t_newSongLong a_t_newFirstNote a_t_newWit a_t_newRow a_t_readCode a_t_waits a_t_tested a_t_isTold a_t_rows a_t_ahead a_t_told a_t_pile a_t_common a_t_mostOf a_t_likes a_t_heard a_t_soon a_t_soonAll a_t_imageRow a_t_imageAhead a_t_imageHears v_t_thrown v_t_songs v_t_people v_t_forgetsAt v_t_fillsAt v_t_taped x1 v_t_place v_t_long1 v_t_next0 v_t_sort v_t_place v_t_long0 v_t_value v_t_sign v_t_word v_t_newSongs v_t_newPeople v_t_newForgetsAt v_t_newFillsAt v_t_top v_t_firstValue v_t_lastValue v_t_waiting v_t_depth v_t_acts v_t_isWinter v_t_learntNow v_t_forgottenNow v_t_heardMany v_t_its0 v_t_hasImage v_t_imageActs v_t_imageHeard) := hD
    have h := Option.some.inj h
    obtain ⟨w0, h⟩ := Prod.mk.inj h
    subst h
    subst w0
    exact hret _ _ _ _ hP hS dX12_wrong_21
  · replace h := gs_iff c1 h
    have h := Option.some.inj h
    obtain ⟨w0, h⟩ := Prod.mk.inj h
    subst h
    subst w0
    exact hret _ _ _ _ hP hS dX12_wrong_7

theorem dX12_isGood_0 : decode cX12_isGood 0 = .ok (.aload_n 0, 1) := by decide +kernel
theorem dX12_isGood_1 : decode cX12_isGood 1 = .ok (.getfield 158, 3) := by decide +kernel
theorem dX12_isGood_4 : decode cX12_isGood 4 = .ok (.ifCond .ne 7, 3) := by decide +kernel
theorem dX12_isGood_7 : decode cX12_isGood 7 = .ok (.iconst 1, 1) := by decide +kernel
theorem dX12_isGood_8 : decode cX12_isGood 8 = .ok (.goto 4, 3) := by decide +kernel
theorem dX12_isGood_11 : decode cX12_isGood 11 = .ok (.iconst 0, 1) := by decide +kernel
theorem dX12_isGood_12 : decode cX12_isGood 12 = .ok (.ireturn, 1) := by decide +kernel
abbrev w_X12_isGood (E : gs_E) (a_t a_t_songLong a_t_firstNote a_t_wit a_t_code a_t_tape a_t_refused a_t_newSongLong a_t_newFirstNote a_t_newWit a_t_newRow a_t_readCode a_t_waits a_t_tested a_t_isTold a_t_rows a_t_ahead a_t_told a_t_pile a_t_common a_t_mostOf a_t_likes a_t_heard a_t_soon a_t_soonAll a_t_imageRow a_t_imageAhead a_t_imageHears : Nat) (v_t_thrown : Int32) (v_t_songs : Int32) (v_t_people : Int32) (v_t_forgetsAt : Int32) (v_t_fillsAt : Int32) (v_t_taped : Int32) (v_t_faultKind : Int32) (v_t_faultPlace : Int32) (v_t_long1 : Int32) (v_t_next0 : Int32) (v_t_sort : Int32) (v_t_place : Int32) (v_t_long0 : Int32) (v_t_value : Int32) (v_t_sign : Int32) (v_t_word : Int64) (v_t_newSongs : Int32) (v_t_newPeople : Int32) (v_t_newForgetsAt : Int32) (v_t_newFillsAt : Int32) (v_t_top : Int32) (v_t_firstValue : Int32) (v_t_lastValue : Int32) (v_t_waiting : Int32) (v_t_depth : Int32) (v_t_acts : Int32) (v_t_isWinter : Int32) (v_t_learntNow : Int32) (v_t_forgottenNow : Int32) (v_t_heardMany : Int32) (v_t_its0 : Int32) (v_t_hasImage : Int32) (v_t_imageActs : Int32) (v_t_imageHeard : Int32) : va_W := [(a_t, .inr (12, [.int v_t_thrown, .int v_t_songs, .int v_t_people, .int v_t_forgetsAt, .int v_t_fillsAt, .ref a_t_songLong, .ref a_t_firstNote, .ref a_t_wit, .ref a_t_code, .ref a_t_tape, .int v_t_taped, .int v_t_faultKind, .int v_t_faultPlace, .ref a_t_refused, .int v_t_long1, .int v_t_next0, .int v_t_sort, .int v_t_place, .int v_t_long0, .int v_t_value, .int v_t_sign, .long v_t_word, .int v_t_newSongs, .int v_t_newPeople, .int v_t_newForgetsAt, .int v_t_newFillsAt, .int v_t_top, .int v_t_firstValue, .int v_t_lastValue, .int v_t_waiting, .int v_t_depth, .ref a_t_newSongLong, .ref a_t_newFirstNote, .ref a_t_newWit, .ref a_t_newRow, .ref a_t_readCode, .ref a_t_waits, .ref a_t_tested, .ref a_t_isTold, .ref a_t_rows, .ref a_t_ahead, .int v_t_acts, .ref a_t_told, .ref a_t_pile, .int v_t_isWinter, .int v_t_learntNow, .int v_t_forgottenNow, .ref a_t_common, .ref a_t_mostOf, .ref a_t_likes, .int v_t_heardMany, .ref a_t_heard, .ref a_t_soon, .ref a_t_soonAll, .int v_t_its0, .int v_t_hasImage, .int v_t_imageActs, .int v_t_imageHeard, .ref a_t_imageRow, .ref a_t_imageAhead, .ref a_t_imageHears]))]
abbrev rm_X12_isGood : Room := { frames := 0, cells := 0, slots := 0, locals := 0 }
def f_X12_isGood (v_t_faultKind : Int32) : Option (Int32) :=
  if v_t_faultKind = 0 then
    some 1
  else
    some 0
set_option maxHeartbeats 4000000 in
set_option maxRecDepth 100000 in
theorem c_X12_isGood (l : Launch) (E : gs_E) (a_t a_t_songLong a_t_firstNote a_t_wit a_t_code a_t_tape a_t_refused a_t_newSongLong a_t_newFirstNote a_t_newWit a_t_newRow a_t_readCode a_t_waits a_t_tested a_t_isTold a_t_rows a_t_ahead a_t_told a_t_pile a_t_common a_t_mostOf a_t_likes a_t_heard a_t_soon a_t_soonAll a_t_imageRow a_t_imageAhead a_t_imageHears : Nat) (v_t_thrown : Int32) (v_t_songs : Int32) (v_t_people : Int32) (v_t_forgetsAt : Int32) (v_t_fillsAt : Int32) (v_t_taped : Int32) (v_t_faultKind : Int32) (v_t_faultPlace : Int32) (v_t_long1 : Int32) (v_t_next0 : Int32) (v_t_sort : Int32) (v_t_place : Int32) (v_t_long0 : Int32) (v_t_value : Int32) (v_t_sign : Int32) (v_t_word : Int64) (v_t_newSongs : Int32) (v_t_newPeople : Int32) (v_t_newForgetsAt : Int32) (v_t_newFillsAt : Int32) (v_t_top : Int32) (v_t_firstValue : Int32) (v_t_lastValue : Int32) (v_t_waiting : Int32) (v_t_depth : Int32) (v_t_acts : Int32) (v_t_isWinter : Int32) (v_t_learntNow : Int32) (v_t_forgottenNow : Int32) (v_t_heardMany : Int32) (v_t_its0 : Int32) (v_t_hasImage : Int32) (v_t_imageActs : Int32) (v_t_imageHeard : Int32) (rr : Int32) (h : f_X12_isGood v_t_faultKind = some rr) : gs_MR l yX12_isGood wsX12_isGood rm_X12_isGood [.ref a_t] E (w_X12_isGood E a_t a_t_songLong a_t_firstNote a_t_wit a_t_code a_t_tape a_t_refused a_t_newSongLong a_t_newFirstNote a_t_newWit a_t_newRow a_t_readCode a_t_waits a_t_tested a_t_isTold a_t_rows a_t_ahead a_t_told a_t_pile a_t_common a_t_mostOf a_t_likes a_t_heard a_t_soon a_t_soonAll a_t_imageRow a_t_imageAhead a_t_imageHears v_t_thrown v_t_songs v_t_people v_t_forgetsAt v_t_fillsAt v_t_taped v_t_faultKind v_t_faultPlace v_t_long1 v_t_next0 v_t_sort v_t_place v_t_long0 v_t_value v_t_sign v_t_word v_t_newSongs v_t_newPeople v_t_newForgetsAt v_t_newFillsAt v_t_top v_t_firstValue v_t_lastValue v_t_waiting v_t_depth v_t_acts v_t_isWinter v_t_learntNow v_t_forgottenNow v_t_heardMany v_t_its0 v_t_hasImage v_t_imageActs v_t_imageHeard) (some (.int rr)) := by
  refine Met.ofW (cc := cX12_isGood) (maxL := 1) (ret := (some .boolean)) (by decide) rfl ?_
  intro p e s m args below meth c s₁ B hml hv
  obtain ⟨rfl, hP, hk, hD0⟩ := hv
  have X0 : gs_X wsX12_isGood cX12_isGood RX12 1 (some .boolean) p s m ([.ref a_t] : List Value).toArray meth c := gs_X.of B hml
  obtain ⟨hx, hb, -, hown, hts, hr, hlk⟩ := id X0
  have hD := hD0
  have hret : ∀ (pc : Nat) (ls : Array Slot), narrow .boolean (.int rr) = .int rr → decode cX12_isGood pc = .ok (.ireturn, 1) → W p l e rm_X12_isGood s m ([.ref a_t] : List Value).toArray below meth c s.heap [] 0 0 (MQ below (gs_QR (some (.int rr))) ([.ref a_t] : List Value).toArray s 0 0 (fun _ => False)) (F0 m pc ls [.int rr]) := fun pc ls hnar hd => W.zret hx hb hr hnar (fun t ht hW => ⟨rfl, ht⟩) (fun q hq => by cases hq) hd
  have hl := lv_entry ([.ref a_t]) (n := 1) (Nat.le_of_ble_eq_true rfl)
  rw [lg_entry_eq]
  generalize (lg_sl ([.ref a_t]) ++ List.replicate (1 - (lg_sl ([.ref a_t])).length) Slot.unset).toArray = ls at hl ⊢
  have hl : lv_has ls 1 [(0, .ref a_t)] := hl
  unfold f_X12_isGood at h
  refine lv_aload_n hx hb dX12_isGood_0 rfl (lv_at hl 0 rfl) ?_
  refine va_get (D := E.1) (ci := 12) (v := .int v_t_faultKind) (C := RX12) (T := TX12) (N := 61) hx hb hts (fun _ h => (List.mem_cons_of_mem _ (List.mem_append_right _ h))) hown hk.1 hP 0 rfl rfl 11 (by decide) (hts (.fieldLink RX12 158 "GapSongsModel" "faultKind" "I") (List.mem_cons_of_mem _ (List.mem_append_left _ (List.mem_of_getElem? (i := 0) rfl)))) (fun _ h9 => h9) rfl dX12_isGood_1 ?_
  refine lv_if_ne (tgt := 11) hx hb dX12_isGood_4 (by decide) (fun c1 => ?_) (fun c1 => ?_)
  · replace h := gs_iff c1 h
    refine lv_iconst (v := 0) hx hb dX12_isGood_11 (by decide) ?_
    have h := Option.some.inj h
    subst h
    exact hret _ _ rfl dX12_isGood_12
  · replace h := gs_ift c1 h
    refine lv_iconst (v := 1) hx hb dX12_isGood_7 (by decide) ?_
    refine lv_goto (tgt := 12) hx hb dX12_isGood_8 (by decide) ?_
    have h := Option.some.inj h
    subst h
    exact hret _ _ rfl dX12_isGood_12

theorem dX12_isSign_0 : decode cX12_isSign 0 = .ok (.aload_n 0, 1) := by decide +kernel
theorem dX12_isSign_1 : decode cX12_isSign 1 = .ok (.getfield 135, 3) := by decide +kernel
theorem dX12_isSign_4 : decode cX12_isSign 4 = .ok (.iconst 3, 1) := by decide +kernel
theorem dX12_isSign_5 : decode cX12_isSign 5 = .ok (.if_icmp .ne 15, 3) := by decide +kernel
theorem dX12_isSign_8 : decode cX12_isSign 8 = .ok (.aload_n 0, 1) := by decide +kernel
theorem dX12_isSign_9 : decode cX12_isSign 9 = .ok (.getfield 132, 3) := by decide +kernel
theorem dX12_isSign_12 : decode cX12_isSign 12 = .ok (.iload_n 1, 1) := by decide +kernel
theorem dX12_isSign_13 : decode cX12_isSign 13 = .ok (.if_icmp .ne 7, 3) := by decide +kernel
theorem dX12_isSign_16 : decode cX12_isSign 16 = .ok (.iconst 1, 1) := by decide +kernel
theorem dX12_isSign_17 : decode cX12_isSign 17 = .ok (.goto 4, 3) := by decide +kernel
theorem dX12_isSign_20 : decode cX12_isSign 20 = .ok (.iconst 0, 1) := by decide +kernel
theorem dX12_isSign_21 : decode cX12_isSign 21 = .ok (.ireturn, 1) := by decide +kernel
abbrev w_X12_isSign (E : gs_E) (a_t a_t_songLong a_t_firstNote a_t_wit a_t_code a_t_tape a_t_refused a_t_newSongLong a_t_newFirstNote a_t_newWit a_t_newRow a_t_readCode a_t_waits a_t_tested a_t_isTold a_t_rows a_t_ahead a_t_told a_t_pile a_t_common a_t_mostOf a_t_likes a_t_heard a_t_soon a_t_soonAll a_t_imageRow a_t_imageAhead a_t_imageHears : Nat) (v_t_thrown : Int32) (v_t_songs : Int32) (v_t_people : Int32) (v_t_forgetsAt : Int32) (v_t_fillsAt : Int32) (v_t_taped : Int32) (v_t_faultKind : Int32) (v_t_faultPlace : Int32) (v_t_long1 : Int32) (v_t_next0 : Int32) (v_t_sort : Int32) (v_t_place : Int32) (v_t_long0 : Int32) (v_t_value : Int32) (v_t_sign : Int32) (v_t_word : Int64) (v_t_newSongs : Int32) (v_t_newPeople : Int32) (v_t_newForgetsAt : Int32) (v_t_newFillsAt : Int32) (v_t_top : Int32) (v_t_firstValue : Int32) (v_t_lastValue : Int32) (v_t_waiting : Int32) (v_t_depth : Int32) (v_t_acts : Int32) (v_t_isWinter : Int32) (v_t_learntNow : Int32) (v_t_forgottenNow : Int32) (v_t_heardMany : Int32) (v_t_its0 : Int32) (v_t_hasImage : Int32) (v_t_imageActs : Int32) (v_t_imageHeard : Int32) : va_W := [(a_t, .inr (12, [.int v_t_thrown, .int v_t_songs, .int v_t_people, .int v_t_forgetsAt, .int v_t_fillsAt, .ref a_t_songLong, .ref a_t_firstNote, .ref a_t_wit, .ref a_t_code, .ref a_t_tape, .int v_t_taped, .int v_t_faultKind, .int v_t_faultPlace, .ref a_t_refused, .int v_t_long1, .int v_t_next0, .int v_t_sort, .int v_t_place, .int v_t_long0, .int v_t_value, .int v_t_sign, .long v_t_word, .int v_t_newSongs, .int v_t_newPeople, .int v_t_newForgetsAt, .int v_t_newFillsAt, .int v_t_top, .int v_t_firstValue, .int v_t_lastValue, .int v_t_waiting, .int v_t_depth, .ref a_t_newSongLong, .ref a_t_newFirstNote, .ref a_t_newWit, .ref a_t_newRow, .ref a_t_readCode, .ref a_t_waits, .ref a_t_tested, .ref a_t_isTold, .ref a_t_rows, .ref a_t_ahead, .int v_t_acts, .ref a_t_told, .ref a_t_pile, .int v_t_isWinter, .int v_t_learntNow, .int v_t_forgottenNow, .ref a_t_common, .ref a_t_mostOf, .ref a_t_likes, .int v_t_heardMany, .ref a_t_heard, .ref a_t_soon, .ref a_t_soonAll, .int v_t_its0, .int v_t_hasImage, .int v_t_imageActs, .int v_t_imageHeard, .ref a_t_imageRow, .ref a_t_imageAhead, .ref a_t_imageHears]))]
abbrev rm_X12_isSign : Room := { frames := 0, cells := 0, slots := 0, locals := 0 }
def f_X12_isSign (x1 : Int32) (v_t_sort : Int32) (v_t_sign : Int32) : Option (Int32) :=
  if v_t_sort = 3 then
    if v_t_sign = x1 then
      some 1
    else
      some 0
  else
    some 0
set_option maxHeartbeats 4000000 in
set_option maxRecDepth 100000 in
theorem c_X12_isSign (l : Launch) (E : gs_E) (a_t a_t_songLong a_t_firstNote a_t_wit a_t_code a_t_tape a_t_refused a_t_newSongLong a_t_newFirstNote a_t_newWit a_t_newRow a_t_readCode a_t_waits a_t_tested a_t_isTold a_t_rows a_t_ahead a_t_told a_t_pile a_t_common a_t_mostOf a_t_likes a_t_heard a_t_soon a_t_soonAll a_t_imageRow a_t_imageAhead a_t_imageHears : Nat) (v_t_thrown : Int32) (v_t_songs : Int32) (v_t_people : Int32) (v_t_forgetsAt : Int32) (v_t_fillsAt : Int32) (v_t_taped : Int32) (v_t_faultKind : Int32) (v_t_faultPlace : Int32) (v_t_long1 : Int32) (v_t_next0 : Int32) (v_t_sort : Int32) (v_t_place : Int32) (v_t_long0 : Int32) (v_t_value : Int32) (v_t_sign : Int32) (v_t_word : Int64) (v_t_newSongs : Int32) (v_t_newPeople : Int32) (v_t_newForgetsAt : Int32) (v_t_newFillsAt : Int32) (v_t_top : Int32) (v_t_firstValue : Int32) (v_t_lastValue : Int32) (v_t_waiting : Int32) (v_t_depth : Int32) (v_t_acts : Int32) (v_t_isWinter : Int32) (v_t_learntNow : Int32) (v_t_forgottenNow : Int32) (v_t_heardMany : Int32) (v_t_its0 : Int32) (v_t_hasImage : Int32) (v_t_imageActs : Int32) (v_t_imageHeard : Int32) (x1 : Int32) (rr : Int32) (h : f_X12_isSign x1 v_t_sort v_t_sign = some rr) : gs_MR l yX12_isSign wsX12_isSign rm_X12_isSign [.ref a_t, .int x1] E (w_X12_isSign E a_t a_t_songLong a_t_firstNote a_t_wit a_t_code a_t_tape a_t_refused a_t_newSongLong a_t_newFirstNote a_t_newWit a_t_newRow a_t_readCode a_t_waits a_t_tested a_t_isTold a_t_rows a_t_ahead a_t_told a_t_pile a_t_common a_t_mostOf a_t_likes a_t_heard a_t_soon a_t_soonAll a_t_imageRow a_t_imageAhead a_t_imageHears v_t_thrown v_t_songs v_t_people v_t_forgetsAt v_t_fillsAt v_t_taped v_t_faultKind v_t_faultPlace v_t_long1 v_t_next0 v_t_sort v_t_place v_t_long0 v_t_value v_t_sign v_t_word v_t_newSongs v_t_newPeople v_t_newForgetsAt v_t_newFillsAt v_t_top v_t_firstValue v_t_lastValue v_t_waiting v_t_depth v_t_acts v_t_isWinter v_t_learntNow v_t_forgottenNow v_t_heardMany v_t_its0 v_t_hasImage v_t_imageActs v_t_imageHeard) (some (.int rr)) := by
  refine Met.ofW (cc := cX12_isSign) (maxL := 2) (ret := (some .boolean)) (by decide) rfl ?_
  intro p e s m args below meth c s₁ B hml hv
  obtain ⟨rfl, hP, hk, hD0⟩ := hv
  have X0 : gs_X wsX12_isSign cX12_isSign RX12 2 (some .boolean) p s m ([.ref a_t, .int x1] : List Value).toArray meth c := gs_X.of B hml
  obtain ⟨hx, hb, -, hown, hts, hr, hlk⟩ := id X0
  have hD := hD0
  have hret : ∀ (pc : Nat) (ls : Array Slot), narrow .boolean (.int rr) = .int rr → decode cX12_isSign pc = .ok (.ireturn, 1) → W p l e rm_X12_isSign s m ([.ref a_t, .int x1] : List Value).toArray below meth c s.heap [] 0 0 (MQ below (gs_QR (some (.int rr))) ([.ref a_t, .int x1] : List Value).toArray s 0 0 (fun _ => False)) (F0 m pc ls [.int rr]) := fun pc ls hnar hd => W.zret hx hb hr hnar (fun t ht hW => ⟨rfl, ht⟩) (fun q hq => by cases hq) hd
  have hl := lv_entry ([.ref a_t, .int x1]) (n := 2) (Nat.le_of_ble_eq_true rfl)
  rw [lg_entry_eq]
  generalize (lg_sl ([.ref a_t, .int x1]) ++ List.replicate (2 - (lg_sl ([.ref a_t, .int x1])).length) Slot.unset).toArray = ls at hl ⊢
  have hl : lv_has ls 2 [(0, .ref a_t), (1, .int x1)] := hl
  unfold f_X12_isSign at h
  refine lv_aload_n hx hb dX12_isSign_0 rfl (lv_at hl 0 rfl) ?_
  refine va_get (D := E.1) (ci := 12) (v := .int v_t_sort) (C := RX12) (T := TX12) (N := 61) hx hb hts (fun _ h => (List.mem_cons_of_mem _ (List.mem_append_right _ h))) hown hk.1 hP 0 rfl rfl 16 (by decide) (hts (.fieldLink RX12 135 "GapSongsModel" "sort" "I") (List.mem_cons_of_mem _ (List.mem_append_left _ (List.mem_of_getElem? (i := 0) rfl)))) (fun _ h9 => h9) rfl dX12_isSign_1 ?_
  refine lv_iconst (v := 3) hx hb dX12_isSign_4 (by decide) ?_
  refine lv_icmp_ne (tgt := 20) hx hb dX12_isSign_5 (by decide) (fun c1 => ?_) (fun c1 => ?_)
  · replace h := gs_iff c1 h
    refine lv_iconst (v := 0) hx hb dX12_isSign_20 (by decide) ?_
    have h := Option.some.inj h
    subst h
    exact hret _ _ rfl dX12_isSign_21
  · replace h := gs_ift c1 h
    refine lv_aload_n hx hb dX12_isSign_8 rfl (lv_at hl 0 rfl) ?_
    refine va_get (D := E.1) (ci := 12) (v := .int v_t_sign) (C := RX12) (T := TX12) (N := 61) hx hb hts (fun _ h => (List.mem_cons_of_mem _ (List.mem_append_right _ h))) hown hk.1 hP 0 rfl rfl 20 (by decide) (hts (.fieldLink RX12 132 "GapSongsModel" "sign" "I") (List.mem_cons_of_mem _ (List.mem_append_left _ (List.mem_of_getElem? (i := 1) rfl)))) (fun _ h9 => h9) rfl dX12_isSign_9 ?_
    refine lv_iload_n hx hb dX12_isSign_12 rfl (lv_at hl 1 rfl) ?_
    refine lv_icmp_ne (tgt := 20) hx hb dX12_isSign_13 (by decide) (fun c2 => ?_) (fun c2 => ?_)
    · replace h := gs_iff c2 h
      refine lv_iconst (v := 0) hx hb dX12_isSign_20 (by decide) ?_
      have h := Option.some.inj h
      subst h
      exact hret _ _ rfl dX12_isSign_21
    · replace h := gs_ift c2 h
      refine lv_iconst (v := 1) hx hb dX12_isSign_16 (by decide) ?_
      refine lv_goto (tgt := 21) hx hb dX12_isSign_17 (by decide) ?_
      have h := Option.some.inj h
      subst h
      exact hret _ _ rfl dX12_isSign_21

set_option maxRecDepth 100000 in
theorem ggX12_need_X12_isGood : GoodIn wsX12_need wsX12_isGood := goodIn_r _ [5, 6, 35, 36, 37, 38, 39, 40, 41, 42, 43, 44, 45, 46, 47, 48, 49, 50, 51, 52, 53, 54, 55, 56, 57, 58, 59, 60, 61, 62, 63, 64, 65, 66, 67, 68, 69, 70, 71, 72, 73, 74, 75, 76, 77, 78, 79, 80, 81, 82, 83, 84, 85, 86, 87, 88, 89, 90, 91, 92, 93, 94, 95] rfl (by decide +kernel)
set_option maxRecDepth 100000 in
theorem gX12_need_X12_isGood : GoodIn wsX12_need (wsV RX12 161 RX12 yX12_isGood wsX12_isGood) := goodIn_app (goodIn_of _ (by decide +kernel)) ggX12_need_X12_isGood
set_option maxRecDepth 100000 in
theorem ggX12_need_X12_goes : GoodIn wsX12_need wsX12_goes := goodIn_r _ [10, 11, 12, 13, 14, 15, 16, 17, 18, 19, 20, 21, 4, 22, 23, 24, 25, 26, 27, 28, 29, 35, 36, 37, 38, 39, 40, 41, 42, 43, 44, 45, 46, 47, 48, 49, 50, 51, 52, 53, 54, 55, 56, 57, 58, 59, 60, 61, 62, 63, 64, 65, 66, 67, 68, 69, 70, 71, 72, 73, 74, 75, 76, 77, 78, 79, 80, 81, 82, 83, 84, 85, 86, 87, 88, 89, 90, 91, 92, 93, 94, 95] rfl (by decide +kernel)
set_option maxRecDepth 100000 in
theorem gX12_need_X12_goes : GoodIn wsX12_need (wsV RX12 165 RX12 yX12_goes wsX12_goes) := goodIn_app (goodIn_of _ (by decide +kernel)) ggX12_need_X12_goes
set_option maxRecDepth 100000 in
theorem ggX12_need_X12_wrong : GoodIn wsX12_need wsX12_wrong := goodIn_r _ [33, 6, 13, 34, 35, 36, 37, 38, 39, 40, 41, 42, 43, 44, 45, 46, 47, 48, 49, 50, 51, 52, 53, 54, 55, 56, 57, 58, 59, 60, 61, 62, 63, 64, 65, 66, 67, 68, 69, 70, 71, 72, 73, 74, 75, 76, 77, 78, 79, 80, 81, 82, 83, 84, 85, 86, 87, 88, 89, 90, 91, 92, 93, 94, 95] rfl (by decide +kernel)
set_option maxRecDepth 100000 in
theorem gX12_need_X12_wrong : GoodIn wsX12_need (wsV RX12 168 RX12 yX12_wrong wsX12_wrong) := goodIn_app (goodIn_of _ (by decide +kernel)) ggX12_need_X12_wrong
theorem dX12_need_0 : decode cX12_need 0 = .ok (.aload_n 0, 1) := by decide +kernel
theorem dX12_need_1 : decode cX12_need 1 = .ok (.invokevirtual 161, 3) := by decide +kernel
theorem dX12_need_4 : decode cX12_need 4 = .ok (.ifCond .ne 4, 3) := by decide +kernel
theorem dX12_need_7 : decode cX12_need 7 = .ok (.return_, 1) := by decide +kernel
theorem dX12_need_8 : decode cX12_need 8 = .ok (.iload_n 1, 1) := by decide +kernel
theorem dX12_need_9 : decode cX12_need 9 = .ok (.ifCond .eq 10, 3) := by decide +kernel
theorem dX12_need_12 : decode cX12_need 12 = .ok (.aload_n 0, 1) := by decide +kernel
theorem dX12_need_13 : decode cX12_need 13 = .ok (.invokevirtual 165, 3) := by decide +kernel
theorem dX12_need_16 : decode cX12_need 16 = .ok (.goto 8, 3) := by decide +kernel
theorem dX12_need_19 : decode cX12_need 19 = .ok (.aload_n 0, 1) := by decide +kernel
theorem dX12_need_20 : decode cX12_need 20 = .ok (.iconst 1, 1) := by decide +kernel
theorem dX12_need_21 : decode cX12_need 21 = .ok (.invokevirtual 168, 3) := by decide +kernel
theorem dX12_need_24 : decode cX12_need 24 = .ok (.return_, 1) := by decide +kernel
abbrev w_X12_need (E : gs_E) (a_t a_t_tape a_t_songLong a_t_firstNote a_t_wit a_t_code a_t_refused a_t_newSongLong a_t_newFirstNote a_t_newWit a_t_newRow a_t_readCode a_t_waits a_t_tested a_t_isTold a_t_rows a_t_ahead a_t_told a_t_pile a_t_common a_t_mostOf a_t_likes a_t_heard a_t_soon a_t_soonAll a_t_imageRow a_t_imageAhead a_t_imageHears : Nat) (v_t_thrown : Int32) (v_t_songs : Int32) (v_t_people : Int32) (v_t_forgetsAt : Int32) (v_t_fillsAt : Int32) (v_t_taped : Int32) (v_t_faultKind : Int32) (v_t_faultPlace : Int32) (v_t_long1 : Int32) (v_t_next0 : Int32) (v_t_sort : Int32) (v_t_place : Int32) (v_t_long0 : Int32) (v_t_value : Int32) (v_t_sign : Int32) (v_t_word : Int64) (v_t_newSongs : Int32) (v_t_newPeople : Int32) (v_t_newForgetsAt : Int32) (v_t_newFillsAt : Int32) (v_t_top : Int32) (v_t_firstValue : Int32) (v_t_lastValue : Int32) (v_t_waiting : Int32) (v_t_depth : Int32) (v_t_acts : Int32) (v_t_isWinter : Int32) (v_t_learntNow : Int32) (v_t_forgottenNow : Int32) (v_t_heardMany : Int32) (v_t_its0 : Int32) (v_t_hasImage : Int32) (v_t_imageActs : Int32) (v_t_imageHeard : Int32) (r_t_tape : Nat → Int32) : va_W := [(a_t, .inr (12, [.int v_t_thrown, .int v_t_songs, .int v_t_people, .int v_t_forgetsAt, .int v_t_fillsAt, .ref a_t_songLong, .ref a_t_firstNote, .ref a_t_wit, .ref a_t_code, .ref a_t_tape, .int v_t_taped, .int v_t_faultKind, .int v_t_faultPlace, .ref a_t_refused, .int v_t_long1, .int v_t_next0, .int v_t_sort, .int v_t_place, .int v_t_long0, .int v_t_value, .int v_t_sign, .long v_t_word, .int v_t_newSongs, .int v_t_newPeople, .int v_t_newForgetsAt, .int v_t_newFillsAt, .int v_t_top, .int v_t_firstValue, .int v_t_lastValue, .int v_t_waiting, .int v_t_depth, .ref a_t_newSongLong, .ref a_t_newFirstNote, .ref a_t_newWit, .ref a_t_newRow, .ref a_t_readCode, .ref a_t_waits, .ref a_t_tested, .ref a_t_isTold, .ref a_t_rows, .ref a_t_ahead, .int v_t_acts, .ref a_t_told, .ref a_t_pile, .int v_t_isWinter, .int v_t_learntNow, .int v_t_forgottenNow, .ref a_t_common, .ref a_t_mostOf, .ref a_t_likes, .int v_t_heardMany, .ref a_t_heard, .ref a_t_soon, .ref a_t_soonAll, .int v_t_its0, .int v_t_hasImage, .int v_t_imageActs, .int v_t_imageHeard, .ref a_t_imageRow, .ref a_t_imageAhead, .ref a_t_imageHears])), (a_t_tape, .inl (E.2.1, 700, .inl r_t_tape))]
abbrev rm_X12_need : Room := { frames := 2, cells := 0, slots := 0, locals := 42 }
def f_X12_need (x1 : Int32) (v_t_faultKind : Int32) (v_t_faultPlace : Int32) (v_t_long1 : Int32) (v_t_next0 : Int32) (v_t_sort : Int32) (v_t_place : Int32) (v_t_long0 : Int32) (v_t_value : Int32) (v_t_sign : Int32) (v_t_word : Int64) (r_t_tape : Nat → Int32) : Option (Int32 × Int32 × Int32 × Int32 × Int32 × Int32 × Int32 × Int32 × Int64) :=
  gs_b1 (f_X12_isGood v_t_faultKind) fun r1 =>
  if r1 = 0 then
    some (v_t_faultKind, v_t_faultPlace, v_t_next0, v_t_sort, v_t_place, v_t_long0, v_t_value, v_t_sign, v_t_word)
  else
    if x1 = 0 then
      gs_b2 (f_X12_wrong 1 v_t_faultKind v_t_faultPlace v_t_place) fun o4_0 o4_1 =>
      some (o4_0, o4_1, v_t_next0, v_t_sort, v_t_place, v_t_long0, v_t_value, v_t_sign, v_t_word)
    else
      gs_b7 (f_X12_goes v_t_long1 v_t_next0 v_t_sort v_t_place v_t_long0 v_t_value v_t_sign v_t_word r_t_tape) fun o5_0 o5_1 o5_2 o5_3 o5_4 o5_5 o5_6 =>
      some (v_t_faultKind, v_t_faultPlace, o5_0, o5_1, o5_2, o5_3, o5_4, o5_5, o5_6)
set_option maxHeartbeats 4000000 in
set_option maxRecDepth 100000 in
theorem c_X12_need (l : Launch) (E : gs_E) (a_t a_t_tape a_t_songLong a_t_firstNote a_t_wit a_t_code a_t_refused a_t_newSongLong a_t_newFirstNote a_t_newWit a_t_newRow a_t_readCode a_t_waits a_t_tested a_t_isTold a_t_rows a_t_ahead a_t_told a_t_pile a_t_common a_t_mostOf a_t_likes a_t_heard a_t_soon a_t_soonAll a_t_imageRow a_t_imageAhead a_t_imageHears : Nat) (v_t_thrown : Int32) (v_t_songs : Int32) (v_t_people : Int32) (v_t_forgetsAt : Int32) (v_t_fillsAt : Int32) (v_t_taped : Int32) (v_t_faultKind : Int32) (v_t_faultPlace : Int32) (v_t_long1 : Int32) (v_t_next0 : Int32) (v_t_sort : Int32) (v_t_place : Int32) (v_t_long0 : Int32) (v_t_value : Int32) (v_t_sign : Int32) (v_t_word : Int64) (v_t_newSongs : Int32) (v_t_newPeople : Int32) (v_t_newForgetsAt : Int32) (v_t_newFillsAt : Int32) (v_t_top : Int32) (v_t_firstValue : Int32) (v_t_lastValue : Int32) (v_t_waiting : Int32) (v_t_depth : Int32) (v_t_acts : Int32) (v_t_isWinter : Int32) (v_t_learntNow : Int32) (v_t_forgottenNow : Int32) (v_t_heardMany : Int32) (v_t_its0 : Int32) (v_t_hasImage : Int32) (v_t_imageActs : Int32) (v_t_imageHeard : Int32) (r_t_tape : Nat → Int32) (x1 : Int32) (o_t_faultKind : Int32) (o_t_faultPlace : Int32) (o_t_next0 : Int32) (o_t_sort : Int32) (o_t_place : Int32) (o_t_long0 : Int32) (o_t_value : Int32) (o_t_sign : Int32) (o_t_word : Int64) (h : f_X12_need x1 v_t_faultKind v_t_faultPlace v_t_long1 v_t_next0 v_t_sort v_t_place v_t_long0 v_t_value v_t_sign v_t_word r_t_tape = some (o_t_faultKind, o_t_faultPlace, o_t_next0, o_t_sort, o_t_place, o_t_long0, o_t_value, o_t_sign, o_t_word)) : gs_MW l yX12_need wsX12_need rm_X12_need [.ref a_t, .int x1] E (w_X12_need E a_t a_t_tape a_t_songLong a_t_firstNote a_t_wit a_t_code a_t_refused a_t_newSongLong a_t_newFirstNote a_t_newWit a_t_newRow a_t_readCode a_t_waits a_t_tested a_t_isTold a_t_rows a_t_ahead a_t_told a_t_pile a_t_common a_t_mostOf a_t_likes a_t_heard a_t_soon a_t_soonAll a_t_imageRow a_t_imageAhead a_t_imageHears v_t_thrown v_t_songs v_t_people v_t_forgetsAt v_t_fillsAt v_t_taped v_t_faultKind v_t_faultPlace v_t_long1 v_t_next0 v_t_sort v_t_place v_t_long0 v_t_value v_t_sign v_t_word v_t_newSongs v_t_newPeople v_t_newForgetsAt v_t_newFillsAt v_t_top v_t_firstValue v_t_lastValue v_t_waiting v_t_depth v_t_acts v_t_isWinter v_t_learntNow v_t_forgottenNow v_t_heardMany v_t_its0 v_t_hasImage v_t_imageActs v_t_imageHeard r_t_tape) (w_X12_need E a_t a_t_tape a_t_songLong a_t_firstNote a_t_wit a_t_code a_t_refused a_t_newSongLong a_t_newFirstNote a_t_newWit a_t_newRow a_t_readCode a_t_waits a_t_tested a_t_isTold a_t_rows a_t_ahead a_t_told a_t_pile a_t_common a_t_mostOf a_t_likes a_t_heard a_t_soon a_t_soonAll a_t_imageRow a_t_imageAhead a_t_imageHears v_t_thrown v_t_songs v_t_people v_t_forgetsAt v_t_fillsAt v_t_taped o_t_faultKind o_t_faultPlace v_t_long1 o_t_next0 o_t_sort o_t_place o_t_long0 o_t_value o_t_sign o_t_word v_t_newSongs v_t_newPeople v_t_newForgetsAt v_t_newFillsAt v_t_top v_t_firstValue v_t_lastValue v_t_waiting v_t_depth v_t_acts v_t_isWinter v_t_learntNow v_t_forgottenNow v_t_heardMany v_t_its0 v_t_hasImage v_t_imageActs v_t_imageHeard r_t_tape) none := by
  refine Met.ofW (cc := cX12_need) (maxL := 2) (ret := none) (by decide) rfl ?_
  intro p e s m args below meth c s₁ B hml hv
  obtain ⟨rfl, hP, hk, hD0⟩ := hv
  have X0 : gs_X wsX12_need cX12_need RX12 2 none p s m ([.ref a_t, .int x1] : List Value).toArray meth c := gs_X.of B hml
  obtain ⟨hx, hb, -, hown, hts, hr, hlk⟩ := id X0
  have hD := (gs_D_self hD0)
  generalize hAe : gs_w (w_X12_need E a_t a_t_tape a_t_songLong a_t_firstNote a_t_wit a_t_code a_t_refused a_t_newSongLong a_t_newFirstNote a_t_newWit a_t_newRow a_t_readCode a_t_waits a_t_tested a_t_isTold a_t_rows a_t_ahead a_t_told a_t_pile a_t_common a_t_mostOf a_t_likes a_t_heard a_t_soon a_t_soonAll a_t_imageRow a_t_imageAhead a_t_imageHears v_t_thrown v_t_songs v_t_people v_t_forgetsAt v_t_fillsAt v_t_taped v_t_faultKind v_t_faultPlace v_t_long1 v_t_next0 v_t_sort v_t_place v_t_long0 v_t_value v_t_sign v_t_word v_t_newSongs v_t_newPeople v_t_newForgetsAt v_t_newFillsAt v_t_top v_t_firstValue v_t_lastValue v_t_waiting v_t_depth v_t_acts v_t_isWinter v_t_learntNow v_t_forgottenNow v_t_heardMany v_t_its0 v_t_hasImage v_t_imageActs v_t_imageHeard r_t_tape) = A at hD ⊢
  have hS : va_S A s.heap s.heap [] := va_S.rf
  have hret : ∀ (H : Heap) (locs : List Loc) (pc : Nat) (ls : Array Slot), va_P E.1 vwCl (w_X12_need E a_t a_t_tape a_t_songLong a_t_firstNote a_t_wit a_t_code a_t_refused a_t_newSongLong a_t_newFirstNote a_t_newWit a_t_newRow a_t_readCode a_t_waits a_t_tested a_t_isTold a_t_rows a_t_ahead a_t_told a_t_pile a_t_common a_t_mostOf a_t_likes a_t_heard a_t_soon a_t_soonAll a_t_imageRow a_t_imageAhead a_t_imageHears v_t_thrown v_t_songs v_t_people v_t_forgetsAt v_t_fillsAt v_t_taped o_t_faultKind o_t_faultPlace v_t_long1 o_t_next0 o_t_sort o_t_place o_t_long0 o_t_value o_t_sign o_t_word v_t_newSongs v_t_newPeople v_t_newForgetsAt v_t_newFillsAt v_t_top v_t_firstValue v_t_lastValue v_t_waiting v_t_depth v_t_acts v_t_isWinter v_t_learntNow v_t_forgottenNow v_t_heardMany v_t_its0 v_t_hasImage v_t_imageActs v_t_imageHeard r_t_tape) H → va_S A s.heap H locs → decode cX12_need pc = .ok (.return_, 1) → W p l e rm_X12_need s m ([.ref a_t, .int x1] : List Value).toArray below meth c H locs 0 0 (MQ below (gs_QWA E A (w_X12_need E a_t a_t_tape a_t_songLong a_t_firstNote a_t_wit a_t_code a_t_refused a_t_newSongLong a_t_newFirstNote a_t_newWit a_t_newRow a_t_readCode a_t_waits a_t_tested a_t_isTold a_t_rows a_t_ahead a_t_told a_t_pile a_t_common a_t_mostOf a_t_likes a_t_heard a_t_soon a_t_soonAll a_t_imageRow a_t_imageAhead a_t_imageHears v_t_thrown v_t_songs v_t_people v_t_forgetsAt v_t_fillsAt v_t_taped o_t_faultKind o_t_faultPlace v_t_long1 o_t_next0 o_t_sort o_t_place o_t_long0 o_t_value o_t_sign o_t_word v_t_newSongs v_t_newPeople v_t_newForgetsAt v_t_newFillsAt v_t_top v_t_firstValue v_t_lastValue v_t_waiting v_t_depth v_t_acts v_t_isWinter v_t_learntNow v_t_forgottenNow v_t_heardMany v_t_its0 v_t_hasImage v_t_imageActs v_t_imageHeard r_t_tape) none) ([.ref a_t, .int x1] : List Value).toArray s 0 0 A) (F0 m pc ls []) := fun H locs pc ls hP hS hd => W.vret hx hb hr (fun t ht hW => ⟨rfl, by rw [ht]; exact hP, hS.F ht⟩) hS.2.2 hd
  have hl := lv_entry ([.ref a_t, .int x1]) (n := 2) (Nat.le_of_ble_eq_true rfl)
  rw [lg_entry_eq]
  generalize (lg_sl ([.ref a_t, .int x1]) ++ List.replicate (2 - (lg_sl ([.ref a_t, .int x1])).length) Slot.unset).toArray = ls at hl ⊢
  have hl : lv_has ls 2 [(0, .ref a_t), (1, .int x1)] := hl
  unfold f_X12_need at h
  refine lv_aload_n hx hb dX12_need_0 rfl (lv_at hl 0 rfl) ?_
  obtain ⟨r1, hz1, h⟩ := gs_b1_e h
  refine gs_backRi (va_runV (As := []) (rest := []) ⟨hx, hb, hml, hown, hts⟩ (c_X12_isGood l E a_t a_t_songLong a_t_firstNote a_t_wit a_t_code a_t_tape a_t_refused a_t_newSongLong a_t_newFirstNote a_t_newWit a_t_newRow a_t_readCode a_t_waits a_t_tested a_t_isTold a_t_rows a_t_ahead a_t_told a_t_pile a_t_common a_t_mostOf a_t_likes a_t_heard a_t_soon a_t_soonAll a_t_imageRow a_t_imageAhead a_t_imageHears v_t_thrown v_t_songs v_t_people v_t_forgetsAt v_t_fillsAt v_t_taped v_t_faultKind v_t_faultPlace v_t_long1 v_t_next0 v_t_sort v_t_place v_t_long0 v_t_value v_t_sign v_t_word v_t_newSongs v_t_newPeople v_t_newForgetsAt v_t_newFillsAt v_t_top v_t_firstValue v_t_lastValue v_t_waiting v_t_depth v_t_acts v_t_isWinter v_t_learntNow v_t_forgottenNow v_t_heardMany v_t_its0 v_t_hasImage v_t_imageActs v_t_imageHeard r1 hz1) (cwV 0 hts gX12_need_X12_isGood rfl rfl rfl (by decide +kernel) ⟨Nat.le_of_ble_eq_true rfl, Nat.le_of_ble_eq_true rfl⟩) (gs_preV (ci := 12) hk hP hD (is := [0]) rfl rfl rfl rfl) rfl rfl hl.1 rfl (lv_room (Nat.le_of_ble_eq_true rfl)) dX12_need_1 ⟨Nat.zero_le _, Nat.zero_le _⟩) ?_
  refine lv_if_ne (tgt := 8) hx hb dX12_need_4 (by decide) (fun c2 => ?_) (fun c2 => ?_)
  · replace h := gs_iff c2 h
    refine lv_iload_n hx hb dX12_need_8 rfl (lv_at hl 1 rfl) ?_
    refine lv_if_eq (tgt := 19) hx hb dX12_need_9 (by decide) (fun c3 => ?_) (fun c3 => ?_)
    · replace h := gs_ift c3 h
      refine lv_aload_n hx hb dX12_need_19 rfl (lv_at hl 0 rfl) ?_
      refine lv_iconst (v := 1) hx hb dX12_need_20 (by decide) ?_
      obtain ⟨o4_0, o4_1, hz4, h⟩ := gs_b2_e h
      refine gs_backWv (ws1 := (w_X12_need E a_t a_t_tape a_t_songLong a_t_firstNote a_t_wit a_t_code a_t_refused a_t_newSongLong a_t_newFirstNote a_t_newWit a_t_newRow a_t_readCode a_t_waits a_t_tested a_t_isTold a_t_rows a_t_ahead a_t_told a_t_pile a_t_common a_t_mostOf a_t_likes a_t_heard a_t_soon a_t_soonAll a_t_imageRow a_t_imageAhead a_t_imageHears v_t_thrown v_t_songs v_t_people v_t_forgetsAt v_t_fillsAt v_t_taped o4_0 o4_1 v_t_long1 v_t_next0 v_t_sort v_t_place v_t_long0 v_t_value v_t_sign v_t_word v_t_newSongs v_t_newPeople v_t_newForgetsAt v_t_newFillsAt v_t_top v_t_firstValue v_t_lastValue v_t_waiting v_t_depth v_t_acts v_t_isWinter v_t_learntNow v_t_forgottenNow v_t_heardMany v_t_its0 v_t_hasImage v_t_imageActs v_t_imageHeard r_t_tape)) (va_runV (As := [.int 1]) (rest := []) ⟨hx, hb, hml, hown, hts⟩ (c_X12_wrong l E a_t a_t_songLong a_t_firstNote a_t_wit a_t_code a_t_tape a_t_refused a_t_newSongLong a_t_newFirstNote a_t_newWit a_t_newRow a_t_readCode a_t_waits a_t_tested a_t_isTold a_t_rows a_t_ahead a_t_told a_t_pile a_t_common a_t_mostOf a_t_likes a_t_heard a_t_soon a_t_soonAll a_t_imageRow a_t_imageAhead a_t_imageHears v_t_thrown v_t_songs v_t_people v_t_forgetsAt v_t_fillsAt v_t_taped v_t_faultKind v_t_faultPlace v_t_long1 v_t_next0 v_t_sort v_t_place v_t_long0 v_t_value v_t_sign v_t_word v_t_newSongs v_t_newPeople v_t_newForgetsAt v_t_newFillsAt v_t_top v_t_firstValue v_t_lastValue v_t_waiting v_t_depth v_t_acts v_t_isWinter v_t_learntNow v_t_forgottenNow v_t_heardMany v_t_its0 v_t_hasImage v_t_imageActs v_t_imageHeard 1 o4_0 o4_1 hz4) (cwV 1 hts gX12_need_X12_wrong rfl rfl rfl (by decide +kernel) ⟨Nat.le_of_ble_eq_true rfl, Nat.le_of_ble_eq_true rfl⟩) (gs_preV (ci := 12) hk hP hD (is := [0]) rfl rfl rfl rfl) rfl rfl hl.1 rfl (lv_room (Nat.le_of_ble_eq_true rfl)) dX12_need_21 ⟨Nat.zero_le _, Nat.zero_le _⟩) hP hD hS [0] rfl rfl rfl rfl (fun H locs hP hD hS => ?_)
      have h := Option.some.inj h
      obtain ⟨w0, h⟩ := Prod.mk.inj h
      obtain ⟨w1, h⟩ := Prod.mk.inj h
      obtain ⟨w2, h⟩ := Prod.mk.inj h
      obtain ⟨w3, h⟩ := Prod.mk.inj h
      obtain ⟨w4, h⟩ := Prod.mk.inj h
      obtain ⟨w5, h⟩ := Prod.mk.inj h
      obtain ⟨w6, h⟩ := Prod.mk.inj h
      obtain ⟨w7, h⟩ := Prod.mk.inj h
      subst h
      subst w0
      subst w1
      subst w2
      subst w3
      subst w4
      subst w5
      subst w6
      subst w7
      exact hret _ _ _ _ hP hS dX12_need_24
    · replace h := gs_iff c3 h
      refine lv_aload_n hx hb dX12_need_12 rfl (lv_at hl 0 rfl) ?_
      obtain ⟨o5_0, o5_1, o5_2, o5_3, o5_4, o5_5, o5_6, hz5, h⟩ := gs_b7_e h
      refine gs_backWv (ws1 := (w_X12_need E a_t a_t_tape a_t_songLong a_t_firstNote a_t_wit a_t_code a_t_refused a_t_newSongLong a_t_newFirstNote a_t_newWit a_t_newRow a_t_readCode a_t_waits a_t_tested a_t_isTold a_t_rows a_t_ahead a_t_told a_t_pile a_t_common a_t_mostOf a_t_likes a_t_heard a_t_soon a_t_soonAll a_t_imageRow a_t_imageAhead a_t_imageHears v_t_thrown v_t_songs v_t_people v_t_forgetsAt v_t_fillsAt v_t_taped v_t_faultKind v_t_faultPlace v_t_long1 o5_0 o5_1 o5_2 o5_3 o5_4 o5_5 o5_6 v_t_newSongs v_t_newPeople v_t_newForgetsAt v_t_newFillsAt v_t_top v_t_firstValue v_t_lastValue v_t_waiting v_t_depth v_t_acts v_t_isWinter v_t_learntNow v_t_forgottenNow v_t_heardMany v_t_its0 v_t_hasImage v_t_imageActs v_t_imageHeard r_t_tape)) (va_runV (As := []) (rest := []) ⟨hx, hb, hml, hown, hts⟩ (c_X12_goes l E a_t a_t_tape a_t_songLong a_t_firstNote a_t_wit a_t_code a_t_refused a_t_newSongLong a_t_newFirstNote a_t_newWit a_t_newRow a_t_readCode a_t_waits a_t_tested a_t_isTold a_t_rows a_t_ahead a_t_told a_t_pile a_t_common a_t_mostOf a_t_likes a_t_heard a_t_soon a_t_soonAll a_t_imageRow a_t_imageAhead a_t_imageHears v_t_thrown v_t_songs v_t_people v_t_forgetsAt v_t_fillsAt v_t_taped v_t_faultKind v_t_faultPlace v_t_long1 v_t_next0 v_t_sort v_t_place v_t_long0 v_t_value v_t_sign v_t_word v_t_newSongs v_t_newPeople v_t_newForgetsAt v_t_newFillsAt v_t_top v_t_firstValue v_t_lastValue v_t_waiting v_t_depth v_t_acts v_t_isWinter v_t_learntNow v_t_forgottenNow v_t_heardMany v_t_its0 v_t_hasImage v_t_imageActs v_t_imageHeard r_t_tape o5_0 o5_1 o5_2 o5_3 o5_4 o5_5 o5_6 hz5) (cwV 0 hts gX12_need_X12_goes rfl rfl rfl (by decide +kernel) ⟨Nat.le_of_ble_eq_true rfl, Nat.le_of_ble_eq_true rfl⟩) (gs_preV (ci := 12) hk hP hD (is := [0, 1]) rfl rfl rfl rfl) rfl rfl hl.1 rfl (lv_room (Nat.le_of_ble_eq_true rfl)) dX12_need_13 ⟨Nat.zero_le _, Nat.zero_le _⟩) hP hD hS [0, 1] rfl rfl rfl rfl (fun H locs hP hD hS => ?_)
      refine lv_goto (tgt := 24) hx hb dX12_need_16 (by decide) ?_
      have h := Option.some.inj h
      obtain ⟨w0, h⟩ := Prod.mk.inj h
      obtain ⟨w1, h⟩ := Prod.mk.inj h
      obtain ⟨w2, h⟩ := Prod.mk.inj h
      obtain ⟨w3, h⟩ := Prod.mk.inj h
      obtain ⟨w4, h⟩ := Prod.mk.inj h
      obtain ⟨w5, h⟩ := Prod.mk.inj h
      obtain ⟨w6, h⟩ := Prod.mk.inj h
      obtain ⟨w7, h⟩ := Prod.mk.inj h
      subst h
      subst w0
      subst w1
      subst w2
      subst w3
      subst w4
      subst w5
      subst w6
      subst w7
      exact hret _ _ _ _ hP hS dX12_need_24
  · replace h := gs_ift c2 h
    have h := Option.some.inj h
    obtain ⟨w0, h⟩ := Prod.mk.inj h
    obtain ⟨w1, h⟩ := Prod.mk.inj h
    obtain ⟨w2, h⟩ := Prod.mk.inj h
    obtain ⟨w3, h⟩ := Prod.mk.inj h
    obtain ⟨w4, h⟩ := Prod.mk.inj h
    obtain ⟨w5, h⟩ := Prod.mk.inj h
    obtain ⟨w6, h⟩ := Prod.mk.inj h
    obtain ⟨w7, h⟩ := Prod.mk.inj h
    subst h
    subst w0
    subst w1
    subst w2
    subst w3
    subst w4
    subst w5
    subst w6
    subst w7
    exact hret _ _ _ _ hP hS dX12_need_7

set_option maxRecDepth 100000 in
theorem ggX12_number_X12_isGood : GoodIn wsX12_number wsX12_isGood := goodIn_r _ [8, 9, 35, 36, 37, 38, 39, 40, 41, 42, 43, 44, 45, 46, 47, 48, 49, 50, 51, 52, 53, 54, 55, 56, 57, 58, 59, 60, 61, 62, 63, 64, 65, 66, 67, 68, 69, 70, 71, 72, 73, 74, 75, 76, 77, 78, 79, 80, 81, 82, 83, 84, 85, 86, 87, 88, 89, 90, 91, 92, 93, 94, 95] rfl (by decide +kernel)
set_option maxRecDepth 100000 in
theorem gX12_number_X12_isGood : GoodIn wsX12_number (wsV RX12 161 RX12 yX12_isGood wsX12_isGood) := goodIn_app (goodIn_of _ (by decide +kernel)) ggX12_number_X12_isGood
set_option maxRecDepth 100000 in
theorem ggX12_number_X12_wrong : GoodIn wsX12_number wsX12_wrong := goodIn_r _ [13, 9, 14, 15, 35, 36, 37, 38, 39, 40, 41, 42, 43, 44, 45, 46, 47, 48, 49, 50, 51, 52, 53, 54, 55, 56, 57, 58, 59, 60, 61, 62, 63, 64, 65, 66, 67, 68, 69, 70, 71, 72, 73, 74, 75, 76, 77, 78, 79, 80, 81, 82, 83, 84, 85, 86, 87, 88, 89, 90, 91, 92, 93, 94, 95] rfl (by decide +kernel)
set_option maxRecDepth 100000 in
theorem gX12_number_X12_wrong : GoodIn wsX12_number (wsV RX12 168 RX12 yX12_wrong wsX12_wrong) := goodIn_app (goodIn_of _ (by decide +kernel)) ggX12_number_X12_wrong
set_option maxRecDepth 100000 in
theorem ggX12_number_X12_goes : GoodIn wsX12_number wsX12_goes := goodIn_r _ [19, 20, 21, 14, 22, 3, 23, 1, 2, 24, 25, 26, 7, 27, 28, 29, 30, 31, 32, 33, 34, 35, 36, 37, 38, 39, 40, 41, 42, 43, 44, 45, 46, 47, 48, 49, 50, 51, 52, 53, 54, 55, 56, 57, 58, 59, 60, 61, 62, 63, 64, 65, 66, 67, 68, 69, 70, 71, 72, 73, 74, 75, 76, 77, 78, 79, 80, 81, 82, 83, 84, 85, 86, 87, 88, 89, 90, 91, 92, 93, 94, 95] rfl (by decide +kernel)
set_option maxRecDepth 100000 in
theorem gX12_number_X12_goes : GoodIn wsX12_number (wsV RX12 165 RX12 yX12_goes wsX12_goes) := goodIn_app (goodIn_of _ (by decide +kernel)) ggX12_number_X12_goes
theorem dX12_number_0 : decode cX12_number 0 = .ok (.aload_n 0, 1) := by decide +kernel
theorem dX12_number_1 : decode cX12_number 1 = .ok (.invokevirtual 161, 3) := by decide +kernel
theorem dX12_number_4 : decode cX12_number 4 = .ok (.ifCond .ne 5, 3) := by decide +kernel
theorem dX12_number_7 : decode cX12_number 7 = .ok (.iconst 0, 1) := by decide +kernel
theorem dX12_number_8 : decode cX12_number 8 = .ok (.ireturn, 1) := by decide +kernel
theorem dX12_number_9 : decode cX12_number 9 = .ok (.aload_n 0, 1) := by decide +kernel
theorem dX12_number_10 : decode cX12_number 10 = .ok (.getfield 135, 3) := by decide +kernel
theorem dX12_number_13 : decode cX12_number 13 = .ok (.iconst 2, 1) := by decide +kernel
theorem dX12_number_14 : decode cX12_number 14 = .ok (.if_icmp .eq 11, 3) := by decide +kernel
theorem dX12_number_17 : decode cX12_number 17 = .ok (.aload_n 0, 1) := by decide +kernel
theorem dX12_number_18 : decode cX12_number 18 = .ok (.iconst 1, 1) := by decide +kernel
theorem dX12_number_19 : decode cX12_number 19 = .ok (.invokevirtual 168, 3) := by decide +kernel
theorem dX12_number_22 : decode cX12_number 22 = .ok (.goto 32, 3) := by decide +kernel
theorem dX12_number_25 : decode cX12_number 25 = .ok (.aload_n 0, 1) := by decide +kernel
theorem dX12_number_26 : decode cX12_number 26 = .ok (.getfield 145, 3) := by decide +kernel
theorem dX12_number_29 : decode cX12_number 29 = .ok (.iconst 4, 1) := by decide +kernel
theorem dX12_number_30 : decode cX12_number 30 = .ok (.if_icmp .gt 19, 3) := by decide +kernel
theorem dX12_number_33 : decode cX12_number 33 = .ok (.aload_n 0, 1) := by decide +kernel
theorem dX12_number_34 : decode cX12_number 34 = .ok (.getfield 129, 3) := by decide +kernel
theorem dX12_number_37 : decode cX12_number 37 = .ok (.iload_n 1, 1) := by decide +kernel
theorem dX12_number_38 : decode cX12_number 38 = .ok (.if_icmp .lt 11, 3) := by decide +kernel
theorem dX12_number_41 : decode cX12_number 41 = .ok (.aload_n 0, 1) := by decide +kernel
theorem dX12_number_42 : decode cX12_number 42 = .ok (.getfield 129, 3) := by decide +kernel
theorem dX12_number_45 : decode cX12_number 45 = .ok (.iload_n 2, 1) := by decide +kernel
theorem dX12_number_46 : decode cX12_number 46 = .ok (.if_icmp .le 8, 3) := by decide +kernel
theorem dX12_number_49 : decode cX12_number 49 = .ok (.aload_n 0, 1) := by decide +kernel
theorem dX12_number_50 : decode cX12_number 50 = .ok (.iconst 2, 1) := by decide +kernel
theorem dX12_number_51 : decode cX12_number 51 = .ok (.invokevirtual 168, 3) := by decide +kernel
theorem dX12_number_54 : decode cX12_number 54 = .ok (.aload_n 0, 1) := by decide +kernel
theorem dX12_number_55 : decode cX12_number 55 = .ok (.getfield 129, 3) := by decide +kernel
theorem dX12_number_58 : decode cX12_number 58 = .ok (.istore_n 3, 1) := by decide +kernel
theorem dX12_number_59 : decode cX12_number 59 = .ok (.aload_n 0, 1) := by decide +kernel
theorem dX12_number_60 : decode cX12_number 60 = .ok (.invokevirtual 161, 3) := by decide +kernel
theorem dX12_number_63 : decode cX12_number 63 = .ok (.ifCond .eq 7, 3) := by decide +kernel
theorem dX12_number_66 : decode cX12_number 66 = .ok (.aload_n 0, 1) := by decide +kernel
theorem dX12_number_67 : decode cX12_number 67 = .ok (.invokevirtual 165, 3) := by decide +kernel
theorem dX12_number_70 : decode cX12_number 70 = .ok (.iload_n 3, 1) := by decide +kernel
theorem dX12_number_71 : decode cX12_number 71 = .ok (.ireturn, 1) := by decide +kernel
abbrev w_X12_number (E : gs_E) (a_t a_t_tape a_t_songLong a_t_firstNote a_t_wit a_t_code a_t_refused a_t_newSongLong a_t_newFirstNote a_t_newWit a_t_newRow a_t_readCode a_t_waits a_t_tested a_t_isTold a_t_rows a_t_ahead a_t_told a_t_pile a_t_common a_t_mostOf a_t_likes a_t_heard a_t_soon a_t_soonAll a_t_imageRow a_t_imageAhead a_t_imageHears : Nat) (v_t_thrown : Int32) (v_t_songs : Int32) (v_t_people : Int32) (v_t_forgetsAt : Int32) (v_t_fillsAt : Int32) (v_t_taped : Int32) (v_t_faultKind : Int32) (v_t_faultPlace : Int32) (v_t_long1 : Int32) (v_t_next0 : Int32) (v_t_sort : Int32) (v_t_place : Int32) (v_t_long0 : Int32) (v_t_value : Int32) (v_t_sign : Int32) (v_t_word : Int64) (v_t_newSongs : Int32) (v_t_newPeople : Int32) (v_t_newForgetsAt : Int32) (v_t_newFillsAt : Int32) (v_t_top : Int32) (v_t_firstValue : Int32) (v_t_lastValue : Int32) (v_t_waiting : Int32) (v_t_depth : Int32) (v_t_acts : Int32) (v_t_isWinter : Int32) (v_t_learntNow : Int32) (v_t_forgottenNow : Int32) (v_t_heardMany : Int32) (v_t_its0 : Int32) (v_t_hasImage : Int32) (v_t_imageActs : Int32) (v_t_imageHeard : Int32) (r_t_tape : Nat → Int32) : va_W := [(a_t, .inr (12, [.int v_t_thrown, .int v_t_songs, .int v_t_people, .int v_t_forgetsAt, .int v_t_fillsAt, .ref a_t_songLong, .ref a_t_firstNote, .ref a_t_wit, .ref a_t_code, .ref a_t_tape, .int v_t_taped, .int v_t_faultKind, .int v_t_faultPlace, .ref a_t_refused, .int v_t_long1, .int v_t_next0, .int v_t_sort, .int v_t_place, .int v_t_long0, .int v_t_value, .int v_t_sign, .long v_t_word, .int v_t_newSongs, .int v_t_newPeople, .int v_t_newForgetsAt, .int v_t_newFillsAt, .int v_t_top, .int v_t_firstValue, .int v_t_lastValue, .int v_t_waiting, .int v_t_depth, .ref a_t_newSongLong, .ref a_t_newFirstNote, .ref a_t_newWit, .ref a_t_newRow, .ref a_t_readCode, .ref a_t_waits, .ref a_t_tested, .ref a_t_isTold, .ref a_t_rows, .ref a_t_ahead, .int v_t_acts, .ref a_t_told, .ref a_t_pile, .int v_t_isWinter, .int v_t_learntNow, .int v_t_forgottenNow, .ref a_t_common, .ref a_t_mostOf, .ref a_t_likes, .int v_t_heardMany, .ref a_t_heard, .ref a_t_soon, .ref a_t_soonAll, .int v_t_its0, .int v_t_hasImage, .int v_t_imageActs, .int v_t_imageHeard, .ref a_t_imageRow, .ref a_t_imageAhead, .ref a_t_imageHears])), (a_t_tape, .inl (E.2.1, 700, .inl r_t_tape))]
abbrev rm_X12_number : Room := { frames := 2, cells := 0, slots := 0, locals := 42 }
def S_X12_number_49 (p : Program) (l : Launch) (e : Env) (s : State) (m : MethodId) (args : Array Value) (below : List Frame) (meth : Method) (c : Code) (Q : State → Prop) (a_t a_t_tape a_t_songLong a_t_firstNote a_t_wit a_t_code a_t_refused a_t_newSongLong a_t_newFirstNote a_t_newWit a_t_newRow a_t_readCode a_t_waits a_t_tested a_t_isTold a_t_rows a_t_ahead a_t_told a_t_pile a_t_common a_t_mostOf a_t_likes a_t_heard a_t_soon a_t_soonAll a_t_imageRow a_t_imageAhead a_t_imageHears : Nat) (E : gs_E) (A : Nat → Prop) (v_t_thrown : Int32) (v_t_songs : Int32) (v_t_people : Int32) (v_t_forgetsAt : Int32) (v_t_fillsAt : Int32) (v_t_taped : Int32) (v_t_faultKind : Int32) (v_t_faultPlace : Int32) (v_t_long1 : Int32) (v_t_next0 : Int32) (v_t_sort : Int32) (v_t_place : Int32) (v_t_long0 : Int32) (v_t_value : Int32) (v_t_sign : Int32) (v_t_word : Int64) (v_t_newSongs : Int32) (v_t_newPeople : Int32) (v_t_newForgetsAt : Int32) (v_t_newFillsAt : Int32) (v_t_top : Int32) (v_t_firstValue : Int32) (v_t_lastValue : Int32) (v_t_waiting : Int32) (v_t_depth : Int32) (v_t_acts : Int32) (v_t_isWinter : Int32) (v_t_learntNow : Int32) (v_t_forgottenNow : Int32) (v_t_heardMany : Int32) (v_t_its0 : Int32) (v_t_hasImage : Int32) (v_t_imageActs : Int32) (v_t_imageHeard : Int32) (r_t_tape : Nat → Int32) : Prop := ∀ (H : Heap) (locs : List Loc) (ls : Array Slot), va_P E.1 vwCl (w_X12_number E a_t a_t_tape a_t_songLong a_t_firstNote a_t_wit a_t_code a_t_refused a_t_newSongLong a_t_newFirstNote a_t_newWit a_t_newRow a_t_readCode a_t_waits a_t_tested a_t_isTold a_t_rows a_t_ahead a_t_told a_t_pile a_t_common a_t_mostOf a_t_likes a_t_heard a_t_soon a_t_soonAll a_t_imageRow a_t_imageAhead a_t_imageHears v_t_thrown v_t_songs v_t_people v_t_forgetsAt v_t_fillsAt v_t_taped v_t_faultKind v_t_faultPlace v_t_long1 v_t_next0 v_t_sort v_t_place v_t_long0 v_t_value v_t_sign v_t_word v_t_newSongs v_t_newPeople v_t_newForgetsAt v_t_newFillsAt v_t_top v_t_firstValue v_t_lastValue v_t_waiting v_t_depth v_t_acts v_t_isWinter v_t_learntNow v_t_forgottenNow v_t_heardMany v_t_its0 v_t_hasImage v_t_imageActs v_t_imageHeard r_t_tape) H → va_D A (w_X12_number E a_t a_t_tape a_t_songLong a_t_firstNote a_t_wit a_t_code a_t_refused a_t_newSongLong a_t_newFirstNote a_t_newWit a_t_newRow a_t_readCode a_t_waits a_t_tested a_t_isTold a_t_rows a_t_ahead a_t_told a_t_pile a_t_common a_t_mostOf a_t_likes a_t_heard a_t_soon a_t_soonAll a_t_imageRow a_t_imageAhead a_t_imageHears v_t_thrown v_t_songs v_t_people v_t_forgetsAt v_t_fillsAt v_t_taped v_t_faultKind v_t_faultPlace v_t_long1 v_t_next0 v_t_sort v_t_place v_t_long0 v_t_value v_t_sign v_t_word v_t_newSongs v_t_newPeople v_t_newForgetsAt v_t_newFillsAt v_t_top v_t_firstValue v_t_lastValue v_t_waiting v_t_depth v_t_acts v_t_isWinter v_t_learntNow v_t_forgottenNow v_t_heardMany v_t_its0 v_t_hasImage v_t_imageActs v_t_imageHeard r_t_tape) → va_S A s.heap H locs → lv_has ls 4 [(0, .ref a_t)] → W p l e rm_X12_number s m args below meth c H locs 0 0 Q (F0 m 49 ls [])
def S_X12_number_54 (p : Program) (l : Launch) (e : Env) (s : State) (m : MethodId) (args : Array Value) (below : List Frame) (meth : Method) (c : Code) (Q : State → Prop) (a_t a_t_tape a_t_songLong a_t_firstNote a_t_wit a_t_code a_t_refused a_t_newSongLong a_t_newFirstNote a_t_newWit a_t_newRow a_t_readCode a_t_waits a_t_tested a_t_isTold a_t_rows a_t_ahead a_t_told a_t_pile a_t_common a_t_mostOf a_t_likes a_t_heard a_t_soon a_t_soonAll a_t_imageRow a_t_imageAhead a_t_imageHears : Nat) (E : gs_E) (A : Nat → Prop) (v_t_thrown : Int32) (v_t_songs : Int32) (v_t_people : Int32) (v_t_forgetsAt : Int32) (v_t_fillsAt : Int32) (v_t_taped : Int32) (v_t_faultKind : Int32) (v_t_faultPlace : Int32) (v_t_long1 : Int32) (v_t_next0 : Int32) (v_t_sort : Int32) (v_t_place : Int32) (v_t_long0 : Int32) (v_t_value : Int32) (v_t_sign : Int32) (v_t_word : Int64) (v_t_newSongs : Int32) (v_t_newPeople : Int32) (v_t_newForgetsAt : Int32) (v_t_newFillsAt : Int32) (v_t_top : Int32) (v_t_firstValue : Int32) (v_t_lastValue : Int32) (v_t_waiting : Int32) (v_t_depth : Int32) (v_t_acts : Int32) (v_t_isWinter : Int32) (v_t_learntNow : Int32) (v_t_forgottenNow : Int32) (v_t_heardMany : Int32) (v_t_its0 : Int32) (v_t_hasImage : Int32) (v_t_imageActs : Int32) (v_t_imageHeard : Int32) (r_t_tape : Nat → Int32) : Prop := ∀ (H : Heap) (locs : List Loc) (ls : Array Slot), va_P E.1 vwCl (w_X12_number E a_t a_t_tape a_t_songLong a_t_firstNote a_t_wit a_t_code a_t_refused a_t_newSongLong a_t_newFirstNote a_t_newWit a_t_newRow a_t_readCode a_t_waits a_t_tested a_t_isTold a_t_rows a_t_ahead a_t_told a_t_pile a_t_common a_t_mostOf a_t_likes a_t_heard a_t_soon a_t_soonAll a_t_imageRow a_t_imageAhead a_t_imageHears v_t_thrown v_t_songs v_t_people v_t_forgetsAt v_t_fillsAt v_t_taped v_t_faultKind v_t_faultPlace v_t_long1 v_t_next0 v_t_sort v_t_place v_t_long0 v_t_value v_t_sign v_t_word v_t_newSongs v_t_newPeople v_t_newForgetsAt v_t_newFillsAt v_t_top v_t_firstValue v_t_lastValue v_t_waiting v_t_depth v_t_acts v_t_isWinter v_t_learntNow v_t_forgottenNow v_t_heardMany v_t_its0 v_t_hasImage v_t_imageActs v_t_imageHeard r_t_tape) H → va_D A (w_X12_number E a_t a_t_tape a_t_songLong a_t_firstNote a_t_wit a_t_code a_t_refused a_t_newSongLong a_t_newFirstNote a_t_newWit a_t_newRow a_t_readCode a_t_waits a_t_tested a_t_isTold a_t_rows a_t_ahead a_t_told a_t_pile a_t_common a_t_mostOf a_t_likes a_t_heard a_t_soon a_t_soonAll a_t_imageRow a_t_imageAhead a_t_imageHears v_t_thrown v_t_songs v_t_people v_t_forgetsAt v_t_fillsAt v_t_taped v_t_faultKind v_t_faultPlace v_t_long1 v_t_next0 v_t_sort v_t_place v_t_long0 v_t_value v_t_sign v_t_word v_t_newSongs v_t_newPeople v_t_newForgetsAt v_t_newFillsAt v_t_top v_t_firstValue v_t_lastValue v_t_waiting v_t_depth v_t_acts v_t_isWinter v_t_learntNow v_t_forgottenNow v_t_heardMany v_t_its0 v_t_hasImage v_t_imageActs v_t_imageHeard r_t_tape) → va_S A s.heap H locs → lv_has ls 4 [(0, .ref a_t)] → W p l e rm_X12_number s m args below meth c H locs 0 0 Q (F0 m 54 ls [])
def f_X12_number_54 (v_t_faultKind : Int32) (v_t_faultPlace : Int32) (v_t_long1 : Int32) (v_t_next0 : Int32) (v_t_sort : Int32) (v_t_place : Int32) (v_t_long0 : Int32) (v_t_value : Int32) (v_t_sign : Int32) (v_t_word : Int64) (r_t_tape : Nat → Int32) : Option (Int32 × Int32 × Int32 × Int32 × Int32 × Int32 × Int32 × Int32 × Int32 × Int64) :=
  gs_b1 (f_X12_isGood v_t_faultKind) fun r6 =>
  if r6 = 0 then
    some (v_t_value, v_t_faultKind, v_t_faultPlace, v_t_next0, v_t_sort, v_t_place, v_t_long0, v_t_value, v_t_sign, v_t_word)
  else
    gs_b7 (f_X12_goes v_t_long1 v_t_next0 v_t_sort v_t_place v_t_long0 v_t_value v_t_sign v_t_word r_t_tape) fun o8_0 o8_1 o8_2 o8_3 o8_4 o8_5 o8_6 =>
    some (v_t_value, v_t_faultKind, v_t_faultPlace, o8_0, o8_1, o8_2, o8_3, o8_4, o8_5, o8_6)
set_option maxHeartbeats 4000000 in
set_option maxRecDepth 100000 in
theorem t_X12_number_54 {p : Program} {l : Launch} {e : Env} {s : State} {m : MethodId} {args : Array Value} {below : List Frame} {meth : Method} {c : Code} {Q : State → Prop} {E : gs_E} {A : Nat → Prop} {a_t a_t_tape a_t_songLong a_t_firstNote a_t_wit a_t_code a_t_refused a_t_newSongLong a_t_newFirstNote a_t_newWit a_t_newRow a_t_readCode a_t_waits a_t_tested a_t_isTold a_t_rows a_t_ahead a_t_told a_t_pile a_t_common a_t_mostOf a_t_likes a_t_heard a_t_soon a_t_soonAll a_t_imageRow a_t_imageAhead a_t_imageHears : Nat} {rr : Int32} {o_t_faultKind : Int32} {o_t_faultPlace : Int32} {o_t_next0 : Int32} {o_t_sort : Int32} {o_t_place : Int32} {o_t_long0 : Int32} {o_t_value : Int32} {o_t_sign : Int32} {o_t_word : Int64} (X0 : gs_X wsX12_number cX12_number RX12 4 (some .int) p s m args meth c) (hk : gs_K E s) {v_t_thrown : Int32} {v_t_songs : Int32} {v_t_people : Int32} {v_t_forgetsAt : Int32} {v_t_fillsAt : Int32} {v_t_taped : Int32} {v_t_faultKind : Int32} {v_t_faultPlace : Int32} {v_t_long1 : Int32} {v_t_next0 : Int32} {v_t_sort : Int32} {v_t_place : Int32} {v_t_long0 : Int32} {v_t_value : Int32} {v_t_sign : Int32} {v_t_word : Int64} {v_t_newSongs : Int32} {v_t_newPeople : Int32} {v_t_newForgetsAt : Int32} {v_t_newFillsAt : Int32} {v_t_top : Int32} {v_t_firstValue : Int32} {v_t_lastValue : Int32} {v_t_waiting : Int32} {v_t_depth : Int32} {v_t_acts : Int32} {v_t_isWinter : Int32} {v_t_learntNow : Int32} {v_t_forgottenNow : Int32} {v_t_heardMany : Int32} {v_t_its0 : Int32} {v_t_hasImage : Int32} {v_t_imageActs : Int32} {v_t_imageHeard : Int32} {r_t_tape : Nat → Int32} (hret : ∀ (H : Heap) (locs : List Loc) (pc : Nat) (ls : Array Slot), va_P E.1 vwCl (w_X12_number E a_t a_t_tape a_t_songLong a_t_firstNote a_t_wit a_t_code a_t_refused a_t_newSongLong a_t_newFirstNote a_t_newWit a_t_newRow a_t_readCode a_t_waits a_t_tested a_t_isTold a_t_rows a_t_ahead a_t_told a_t_pile a_t_common a_t_mostOf a_t_likes a_t_heard a_t_soon a_t_soonAll a_t_imageRow a_t_imageAhead a_t_imageHears v_t_thrown v_t_songs v_t_people v_t_forgetsAt v_t_fillsAt v_t_taped o_t_faultKind o_t_faultPlace v_t_long1 o_t_next0 o_t_sort o_t_place o_t_long0 o_t_value o_t_sign o_t_word v_t_newSongs v_t_newPeople v_t_newForgetsAt v_t_newFillsAt v_t_top v_t_firstValue v_t_lastValue v_t_waiting v_t_depth v_t_acts v_t_isWinter v_t_learntNow v_t_forgottenNow v_t_heardMany v_t_its0 v_t_hasImage v_t_imageActs v_t_imageHeard r_t_tape) H → va_S A s.heap H locs → decode cX12_number pc = .ok (.ireturn, 1) → W p l e rm_X12_number s m args below meth c H locs 0 0 Q (F0 m pc ls [.int rr])) (h : f_X12_number_54 v_t_faultKind v_t_faultPlace v_t_long1 v_t_next0 v_t_sort v_t_place v_t_long0 v_t_value v_t_sign v_t_word r_t_tape = some (rr, o_t_faultKind, o_t_faultPlace, o_t_next0, o_t_sort, o_t_place, o_t_long0, o_t_value, o_t_sign, o_t_word)) : S_X12_number_54 p l e s m args below meth c Q a_t a_t_tape a_t_songLong a_t_firstNote a_t_wit a_t_code a_t_refused a_t_newSongLong a_t_newFirstNote a_t_newWit a_t_newRow a_t_readCode a_t_waits a_t_tested a_t_isTold a_t_rows a_t_ahead a_t_told a_t_pile a_t_common a_t_mostOf a_t_likes a_t_heard a_t_soon a_t_soonAll a_t_imageRow a_t_imageAhead a_t_imageHears E A v_t_thrown v_t_songs v_t_people v_t_forgetsAt v_t_fillsAt v_t_taped v_t_faultKind v_t_faultPlace v_t_long1 v_t_next0 v_t_sort v_t_place v_t_long0 v_t_value v_t_sign v_t_word v_t_newSongs v_t_newPeople v_t_newForgetsAt v_t_newFillsAt v_t_top v_t_firstValue v_t_lastValue v_t_waiting v_t_depth v_t_acts v_t_isWinter v_t_learntNow v_t_forgottenNow v_t_heardMany v_t_its0 v_t_hasImage v_t_imageActs v_t_imageHeard r_t_tape := by
  obtain ⟨hx, hb, hml, hown, hts, hr, hlk⟩ := id X0
  intro H locs ls hP hD hS hl
  unfold f_X12_number_54 at h
  refine lv_aload_n hx hb dX12_number_54 rfl (lv_at hl 0 rfl) ?_
  refine va_get (D := E.1) (ci := 12) (v := .int v_t_value) (C := RX12) (T := TX12) (N := 61) hx hb hts (fun _ h => (List.mem_cons_of_mem _ (List.mem_append_right _ h))) hown hk.1 hP 0 rfl rfl 19 (by decide) (hts (.fieldLink RX12 129 "GapSongsModel" "value" "I") (List.mem_cons_of_mem _ (List.mem_append_left _ (List.mem_append_left _ (List.mem_of_getElem? (i := 2) rfl))))) (fun _ h9 => h9) rfl dX12_number_55 ?_
  refine lv_istore_n (lv' := [(3, .int v_t_value), (0, .ref a_t)]) hx hb dX12_number_58 rfl hl (by decide) rfl (fun ls hl => ?_)
  refine lv_aload_n hx hb dX12_number_59 rfl (lv_at hl 1 rfl) ?_
  obtain ⟨r6, hz6, h⟩ := gs_b1_e h
  refine gs_backRi (va_runV (As := []) (rest := []) ⟨hx, hb, hml, hown, hts⟩ (c_X12_isGood l E a_t a_t_songLong a_t_firstNote a_t_wit a_t_code a_t_tape a_t_refused a_t_newSongLong a_t_newFirstNote a_t_newWit a_t_newRow a_t_readCode a_t_waits a_t_tested a_t_isTold a_t_rows a_t_ahead a_t_told a_t_pile a_t_common a_t_mostOf a_t_likes a_t_heard a_t_soon a_t_soonAll a_t_imageRow a_t_imageAhead a_t_imageHears v_t_thrown v_t_songs v_t_people v_t_forgetsAt v_t_fillsAt v_t_taped v_t_faultKind v_t_faultPlace v_t_long1 v_t_next0 v_t_sort v_t_place v_t_long0 v_t_value v_t_sign v_t_word v_t_newSongs v_t_newPeople v_t_newForgetsAt v_t_newFillsAt v_t_top v_t_firstValue v_t_lastValue v_t_waiting v_t_depth v_t_acts v_t_isWinter v_t_learntNow v_t_forgottenNow v_t_heardMany v_t_its0 v_t_hasImage v_t_imageActs v_t_imageHeard r6 hz6) (cwV 0 hts gX12_number_X12_isGood rfl rfl rfl (by decide +kernel) ⟨Nat.le_of_ble_eq_true rfl, Nat.le_of_ble_eq_true rfl⟩) (gs_preV (ci := 12) hk hP hD (is := [0]) rfl rfl rfl rfl) rfl rfl hl.1 rfl (lv_room (Nat.le_of_ble_eq_true rfl)) dX12_number_60 ⟨Nat.zero_le _, Nat.zero_le _⟩) ?_
  refine lv_if_eq (tgt := 70) hx hb dX12_number_63 (by decide) (fun c7 => ?_) (fun c7 => ?_)
  · replace h := gs_ift c7 h
    refine lv_iload_n hx hb dX12_number_70 rfl (lv_at hl 0 rfl) ?_
    have h := Option.some.inj h
    obtain ⟨w0, h⟩ := Prod.mk.inj h
    obtain ⟨w1, h⟩ := Prod.mk.inj h
    obtain ⟨w2, h⟩ := Prod.mk.inj h
    obtain ⟨w3, h⟩ := Prod.mk.inj h
    obtain ⟨w4, h⟩ := Prod.mk.inj h
    obtain ⟨w5, h⟩ := Prod.mk.inj h
    obtain ⟨w6, h⟩ := Prod.mk.inj h
    obtain ⟨w7, h⟩ := Prod.mk.inj h
    obtain ⟨w8, h⟩ := Prod.mk.inj h
    subst h
    subst w0
    subst w1
    subst w2
    subst w3
    subst w4
    subst w5
    subst w6
    subst w7
    subst w8
    exact hret _ _ _ _ hP hS dX12_number_71
  · replace h := gs_iff c7 h
    refine lv_aload_n hx hb dX12_number_66 rfl (lv_at hl 1 rfl) ?_
    obtain ⟨o8_0, o8_1, o8_2, o8_3, o8_4, o8_5, o8_6, hz8, h⟩ := gs_b7_e h
    refine gs_backWv (ws1 := (w_X12_number E a_t a_t_tape a_t_songLong a_t_firstNote a_t_wit a_t_code a_t_refused a_t_newSongLong a_t_newFirstNote a_t_newWit a_t_newRow a_t_readCode a_t_waits a_t_tested a_t_isTold a_t_rows a_t_ahead a_t_told a_t_pile a_t_common a_t_mostOf a_t_likes a_t_heard a_t_soon a_t_soonAll a_t_imageRow a_t_imageAhead a_t_imageHears v_t_thrown v_t_songs v_t_people v_t_forgetsAt v_t_fillsAt v_t_taped v_t_faultKind v_t_faultPlace v_t_long1 o8_0 o8_1 o8_2 o8_3 o8_4 o8_5 o8_6 v_t_newSongs v_t_newPeople v_t_newForgetsAt v_t_newFillsAt v_t_top v_t_firstValue v_t_lastValue v_t_waiting v_t_depth v_t_acts v_t_isWinter v_t_learntNow v_t_forgottenNow v_t_heardMany v_t_its0 v_t_hasImage v_t_imageActs v_t_imageHeard r_t_tape)) (va_runV (As := []) (rest := []) ⟨hx, hb, hml, hown, hts⟩ (c_X12_goes l E a_t a_t_tape a_t_songLong a_t_firstNote a_t_wit a_t_code a_t_refused a_t_newSongLong a_t_newFirstNote a_t_newWit a_t_newRow a_t_readCode a_t_waits a_t_tested a_t_isTold a_t_rows a_t_ahead a_t_told a_t_pile a_t_common a_t_mostOf a_t_likes a_t_heard a_t_soon a_t_soonAll a_t_imageRow a_t_imageAhead a_t_imageHears v_t_thrown v_t_songs v_t_people v_t_forgetsAt v_t_fillsAt v_t_taped v_t_faultKind v_t_faultPlace v_t_long1 v_t_next0 v_t_sort v_t_place v_t_long0 v_t_value v_t_sign v_t_word v_t_newSongs v_t_newPeople v_t_newForgetsAt v_t_newFillsAt v_t_top v_t_firstValue v_t_lastValue v_t_waiting v_t_depth v_t_acts v_t_isWinter v_t_learntNow v_t_forgottenNow v_t_heardMany v_t_its0 v_t_hasImage v_t_imageActs v_t_imageHeard r_t_tape o8_0 o8_1 o8_2 o8_3 o8_4 o8_5 o8_6 hz8) (cwV 0 hts gX12_number_X12_goes rfl rfl rfl (by decide +kernel) ⟨Nat.le_of_ble_eq_true rfl, Nat.le_of_ble_eq_true rfl⟩) (gs_preV (ci := 12) hk hP hD (is := [0, 1]) rfl rfl rfl rfl) rfl rfl hl.1 rfl (lv_room (Nat.le_of_ble_eq_true rfl)) dX12_number_67 ⟨Nat.zero_le _, Nat.zero_le _⟩) hP hD hS [0, 1] rfl rfl rfl rfl (fun H locs hP hD hS => ?_)
    refine lv_iload_n hx hb dX12_number_70 rfl (lv_at hl 0 rfl) ?_
    have h := Option.some.inj h
    obtain ⟨w0, h⟩ := Prod.mk.inj h
    obtain ⟨w1, h⟩ := Prod.mk.inj h
    obtain ⟨w2, h⟩ := Prod.mk.inj h
    obtain ⟨w3, h⟩ := Prod.mk.inj h
    obtain ⟨w4, h⟩ := Prod.mk.inj h
    obtain ⟨w5, h⟩ := Prod.mk.inj h
    obtain ⟨w6, h⟩ := Prod.mk.inj h
    obtain ⟨w7, h⟩ := Prod.mk.inj h
    obtain ⟨w8, h⟩ := Prod.mk.inj h
    subst h
    subst w0
    subst w1
    subst w2
    subst w3
    subst w4
    subst w5
    subst w6
    subst w7
    subst w8
    exact hret _ _ _ _ hP hS dX12_number_71
def f_X12_number_49 (v_t_faultKind : Int32) (v_t_faultPlace : Int32) (v_t_long1 : Int32) (v_t_next0 : Int32) (v_t_sort : Int32) (v_t_place : Int32) (v_t_long0 : Int32) (v_t_value : Int32) (v_t_sign : Int32) (v_t_word : Int64) (r_t_tape : Nat → Int32) : Option (Int32 × Int32 × Int32 × Int32 × Int32 × Int32 × Int32 × Int32 × Int32 × Int64) :=
  gs_b2 (f_X12_wrong 2 v_t_faultKind v_t_faultPlace v_t_place) fun o5_0 o5_1 =>
  f_X12_number_54 o5_0 o5_1 v_t_long1 v_t_next0 v_t_sort v_t_place v_t_long0 v_t_value v_t_sign v_t_word r_t_tape
set_option maxHeartbeats 4000000 in
set_option maxRecDepth 100000 in
theorem t_X12_number_49 {p : Program} {l : Launch} {e : Env} {s : State} {m : MethodId} {args : Array Value} {below : List Frame} {meth : Method} {c : Code} {Q : State → Prop} {E : gs_E} {A : Nat → Prop} {a_t a_t_tape a_t_songLong a_t_firstNote a_t_wit a_t_code a_t_refused a_t_newSongLong a_t_newFirstNote a_t_newWit a_t_newRow a_t_readCode a_t_waits a_t_tested a_t_isTold a_t_rows a_t_ahead a_t_told a_t_pile a_t_common a_t_mostOf a_t_likes a_t_heard a_t_soon a_t_soonAll a_t_imageRow a_t_imageAhead a_t_imageHears : Nat} {rr : Int32} {o_t_faultKind : Int32} {o_t_faultPlace : Int32} {o_t_next0 : Int32} {o_t_sort : Int32} {o_t_place : Int32} {o_t_long0 : Int32} {o_t_value : Int32} {o_t_sign : Int32} {o_t_word : Int64} (X0 : gs_X wsX12_number cX12_number RX12 4 (some .int) p s m args meth c) (hk : gs_K E s) {v_t_thrown : Int32} {v_t_songs : Int32} {v_t_people : Int32} {v_t_forgetsAt : Int32} {v_t_fillsAt : Int32} {v_t_taped : Int32} {v_t_faultKind : Int32} {v_t_faultPlace : Int32} {v_t_long1 : Int32} {v_t_next0 : Int32} {v_t_sort : Int32} {v_t_place : Int32} {v_t_long0 : Int32} {v_t_value : Int32} {v_t_sign : Int32} {v_t_word : Int64} {v_t_newSongs : Int32} {v_t_newPeople : Int32} {v_t_newForgetsAt : Int32} {v_t_newFillsAt : Int32} {v_t_top : Int32} {v_t_firstValue : Int32} {v_t_lastValue : Int32} {v_t_waiting : Int32} {v_t_depth : Int32} {v_t_acts : Int32} {v_t_isWinter : Int32} {v_t_learntNow : Int32} {v_t_forgottenNow : Int32} {v_t_heardMany : Int32} {v_t_its0 : Int32} {v_t_hasImage : Int32} {v_t_imageActs : Int32} {v_t_imageHeard : Int32} {r_t_tape : Nat → Int32} (hret : ∀ (H : Heap) (locs : List Loc) (pc : Nat) (ls : Array Slot), va_P E.1 vwCl (w_X12_number E a_t a_t_tape a_t_songLong a_t_firstNote a_t_wit a_t_code a_t_refused a_t_newSongLong a_t_newFirstNote a_t_newWit a_t_newRow a_t_readCode a_t_waits a_t_tested a_t_isTold a_t_rows a_t_ahead a_t_told a_t_pile a_t_common a_t_mostOf a_t_likes a_t_heard a_t_soon a_t_soonAll a_t_imageRow a_t_imageAhead a_t_imageHears v_t_thrown v_t_songs v_t_people v_t_forgetsAt v_t_fillsAt v_t_taped o_t_faultKind o_t_faultPlace v_t_long1 o_t_next0 o_t_sort o_t_place o_t_long0 o_t_value o_t_sign o_t_word v_t_newSongs v_t_newPeople v_t_newForgetsAt v_t_newFillsAt v_t_top v_t_firstValue v_t_lastValue v_t_waiting v_t_depth v_t_acts v_t_isWinter v_t_learntNow v_t_forgottenNow v_t_heardMany v_t_its0 v_t_hasImage v_t_imageActs v_t_imageHeard r_t_tape) H → va_S A s.heap H locs → decode cX12_number pc = .ok (.ireturn, 1) → W p l e rm_X12_number s m args below meth c H locs 0 0 Q (F0 m pc ls [.int rr])) (h : f_X12_number_49 v_t_faultKind v_t_faultPlace v_t_long1 v_t_next0 v_t_sort v_t_place v_t_long0 v_t_value v_t_sign v_t_word r_t_tape = some (rr, o_t_faultKind, o_t_faultPlace, o_t_next0, o_t_sort, o_t_place, o_t_long0, o_t_value, o_t_sign, o_t_word)) : S_X12_number_49 p l e s m args below meth c Q a_t a_t_tape a_t_songLong a_t_firstNote a_t_wit a_t_code a_t_refused a_t_newSongLong a_t_newFirstNote a_t_newWit a_t_newRow a_t_readCode a_t_waits a_t_tested a_t_isTold a_t_rows a_t_ahead a_t_told a_t_pile a_t_common a_t_mostOf a_t_likes a_t_heard a_t_soon a_t_soonAll a_t_imageRow a_t_imageAhead a_t_imageHears E A v_t_thrown v_t_songs v_t_people v_t_forgetsAt v_t_fillsAt v_t_taped v_t_faultKind v_t_faultPlace v_t_long1 v_t_next0 v_t_sort v_t_place v_t_long0 v_t_value v_t_sign v_t_word v_t_newSongs v_t_newPeople v_t_newForgetsAt v_t_newFillsAt v_t_top v_t_firstValue v_t_lastValue v_t_waiting v_t_depth v_t_acts v_t_isWinter v_t_learntNow v_t_forgottenNow v_t_heardMany v_t_its0 v_t_hasImage v_t_imageActs v_t_imageHeard r_t_tape := by
  obtain ⟨hx, hb, hml, hown, hts, hr, hlk⟩ := id X0
  intro H locs ls hP hD hS hl
  unfold f_X12_number_49 at h
  refine lv_aload_n hx hb dX12_number_49 rfl (lv_at hl 0 rfl) ?_
  refine lv_iconst (v := 2) hx hb dX12_number_50 (by decide) ?_
  obtain ⟨o5_0, o5_1, hz5, h⟩ := gs_b2_e h
  refine gs_backWv (ws1 := (w_X12_number E a_t a_t_tape a_t_songLong a_t_firstNote a_t_wit a_t_code a_t_refused a_t_newSongLong a_t_newFirstNote a_t_newWit a_t_newRow a_t_readCode a_t_waits a_t_tested a_t_isTold a_t_rows a_t_ahead a_t_told a_t_pile a_t_common a_t_mostOf a_t_likes a_t_heard a_t_soon a_t_soonAll a_t_imageRow a_t_imageAhead a_t_imageHears v_t_thrown v_t_songs v_t_people v_t_forgetsAt v_t_fillsAt v_t_taped o5_0 o5_1 v_t_long1 v_t_next0 v_t_sort v_t_place v_t_long0 v_t_value v_t_sign v_t_word v_t_newSongs v_t_newPeople v_t_newForgetsAt v_t_newFillsAt v_t_top v_t_firstValue v_t_lastValue v_t_waiting v_t_depth v_t_acts v_t_isWinter v_t_learntNow v_t_forgottenNow v_t_heardMany v_t_its0 v_t_hasImage v_t_imageActs v_t_imageHeard r_t_tape)) (va_runV (As := [.int 2]) (rest := []) ⟨hx, hb, hml, hown, hts⟩ (c_X12_wrong l E a_t a_t_songLong a_t_firstNote a_t_wit a_t_code a_t_tape a_t_refused a_t_newSongLong a_t_newFirstNote a_t_newWit a_t_newRow a_t_readCode a_t_waits a_t_tested a_t_isTold a_t_rows a_t_ahead a_t_told a_t_pile a_t_common a_t_mostOf a_t_likes a_t_heard a_t_soon a_t_soonAll a_t_imageRow a_t_imageAhead a_t_imageHears v_t_thrown v_t_songs v_t_people v_t_forgetsAt v_t_fillsAt v_t_taped v_t_faultKind v_t_faultPlace v_t_long1 v_t_next0 v_t_sort v_t_place v_t_long0 v_t_value v_t_sign v_t_word v_t_newSongs v_t_newPeople v_t_newForgetsAt v_t_newFillsAt v_t_top v_t_firstValue v_t_lastValue v_t_waiting v_t_depth v_t_acts v_t_isWinter v_t_learntNow v_t_forgottenNow v_t_heardMany v_t_its0 v_t_hasImage v_t_imageActs v_t_imageHeard 2 o5_0 o5_1 hz5) (cwV 1 hts gX12_number_X12_wrong rfl rfl rfl (by decide +kernel) ⟨Nat.le_of_ble_eq_true rfl, Nat.le_of_ble_eq_true rfl⟩) (gs_preV (ci := 12) hk hP hD (is := [0]) rfl rfl rfl rfl) rfl rfl hl.1 rfl (lv_room (Nat.le_of_ble_eq_true rfl)) dX12_number_51 ⟨Nat.zero_le _, Nat.zero_le _⟩) hP hD hS [0] rfl rfl rfl rfl (fun H locs hP hD hS => ?_)
  exact t_X12_number_54 X0 hk  hret  (h := h) _ _ _ hP hD hS (lv_sub hl [0] rfl)
def f_X12_number (x1 : Int32) (x2 : Int32) (v_t_faultKind : Int32) (v_t_faultPlace : Int32) (v_t_long1 : Int32) (v_t_next0 : Int32) (v_t_sort : Int32) (v_t_place : Int32) (v_t_long0 : Int32) (v_t_value : Int32) (v_t_sign : Int32) (v_t_word : Int64) (r_t_tape : Nat → Int32) : Option (Int32 × Int32 × Int32 × Int32 × Int32 × Int32 × Int32 × Int32 × Int32 × Int64) :=
  gs_b1 (f_X12_isGood v_t_faultKind) fun r1 =>
  if r1 = 0 then
    some (0, v_t_faultKind, v_t_faultPlace, v_t_next0, v_t_sort, v_t_place, v_t_long0, v_t_value, v_t_sign, v_t_word)
  else
    if v_t_sort = 2 then
      if 4 < v_t_long0 then
        f_X12_number_49 v_t_faultKind v_t_faultPlace v_t_long1 v_t_next0 v_t_sort v_t_place v_t_long0 v_t_value v_t_sign v_t_word r_t_tape
      else
        if v_t_value < x1 then
          f_X12_number_49 v_t_faultKind v_t_faultPlace v_t_long1 v_t_next0 v_t_sort v_t_place v_t_long0 v_t_value v_t_sign v_t_word r_t_tape
        else
          if v_t_value ≤ x2 then
            f_X12_number_54 v_t_faultKind v_t_faultPlace v_t_long1 v_t_next0 v_t_sort v_t_place v_t_long0 v_t_value v_t_sign v_t_word r_t_tape
          else
            f_X12_number_49 v_t_faultKind v_t_faultPlace v_t_long1 v_t_next0 v_t_sort v_t_place v_t_long0 v_t_value v_t_sign v_t_word r_t_tape
    else
      gs_b2 (f_X12_wrong 1 v_t_faultKind v_t_faultPlace v_t_place) fun o11_0 o11_1 =>
      f_X12_number_54 o11_0 o11_1 v_t_long1 v_t_next0 v_t_sort v_t_place v_t_long0 v_t_value v_t_sign v_t_word r_t_tape
set_option maxHeartbeats 4000000 in
set_option maxRecDepth 100000 in
theorem c_X12_number (l : Launch) (E : gs_E) (a_t a_t_tape a_t_songLong a_t_firstNote a_t_wit a_t_code a_t_refused a_t_newSongLong a_t_newFirstNote a_t_newWit a_t_newRow a_t_readCode a_t_waits a_t_tested a_t_isTold a_t_rows a_t_ahead a_t_told a_t_pile a_t_common a_t_mostOf a_t_likes a_t_heard a_t_soon a_t_soonAll a_t_imageRow a_t_imageAhead a_t_imageHears : Nat) (v_t_thrown : Int32) (v_t_songs : Int32) (v_t_people : Int32) (v_t_forgetsAt : Int32) (v_t_fillsAt : Int32) (v_t_taped : Int32) (v_t_faultKind : Int32) (v_t_faultPlace : Int32) (v_t_long1 : Int32) (v_t_next0 : Int32) (v_t_sort : Int32) (v_t_place : Int32) (v_t_long0 : Int32) (v_t_value : Int32) (v_t_sign : Int32) (v_t_word : Int64) (v_t_newSongs : Int32) (v_t_newPeople : Int32) (v_t_newForgetsAt : Int32) (v_t_newFillsAt : Int32) (v_t_top : Int32) (v_t_firstValue : Int32) (v_t_lastValue : Int32) (v_t_waiting : Int32) (v_t_depth : Int32) (v_t_acts : Int32) (v_t_isWinter : Int32) (v_t_learntNow : Int32) (v_t_forgottenNow : Int32) (v_t_heardMany : Int32) (v_t_its0 : Int32) (v_t_hasImage : Int32) (v_t_imageActs : Int32) (v_t_imageHeard : Int32) (r_t_tape : Nat → Int32) (x1 : Int32) (x2 : Int32) (rr : Int32) (o_t_faultKind : Int32) (o_t_faultPlace : Int32) (o_t_next0 : Int32) (o_t_sort : Int32) (o_t_place : Int32) (o_t_long0 : Int32) (o_t_value : Int32) (o_t_sign : Int32) (o_t_word : Int64) (h : f_X12_number x1 x2 v_t_faultKind v_t_faultPlace v_t_long1 v_t_next0 v_t_sort v_t_place v_t_long0 v_t_value v_t_sign v_t_word r_t_tape = some (rr, o_t_faultKind, o_t_faultPlace, o_t_next0, o_t_sort, o_t_place, o_t_long0, o_t_value, o_t_sign, o_t_word)) : gs_MW l yX12_number wsX12_number rm_X12_number [.ref a_t, .int x1, .int x2] E (w_X12_number E a_t a_t_tape a_t_songLong a_t_firstNote a_t_wit a_t_code a_t_refused a_t_newSongLong a_t_newFirstNote a_t_newWit a_t_newRow a_t_readCode a_t_waits a_t_tested a_t_isTold a_t_rows a_t_ahead a_t_told a_t_pile a_t_common a_t_mostOf a_t_likes a_t_heard a_t_soon a_t_soonAll a_t_imageRow a_t_imageAhead a_t_imageHears v_t_thrown v_t_songs v_t_people v_t_forgetsAt v_t_fillsAt v_t_taped v_t_faultKind v_t_faultPlace v_t_long1 v_t_next0 v_t_sort v_t_place v_t_long0 v_t_value v_t_sign v_t_word v_t_newSongs v_t_newPeople v_t_newForgetsAt v_t_newFillsAt v_t_top v_t_firstValue v_t_lastValue v_t_waiting v_t_depth v_t_acts v_t_isWinter v_t_learntNow v_t_forgottenNow v_t_heardMany v_t_its0 v_t_hasImage v_t_imageActs v_t_imageHeard r_t_tape) (w_X12_number E a_t a_t_tape a_t_songLong a_t_firstNote a_t_wit a_t_code a_t_refused a_t_newSongLong a_t_newFirstNote a_t_newWit a_t_newRow a_t_readCode a_t_waits a_t_tested a_t_isTold a_t_rows a_t_ahead a_t_told a_t_pile a_t_common a_t_mostOf a_t_likes a_t_heard a_t_soon a_t_soonAll a_t_imageRow a_t_imageAhead a_t_imageHears v_t_thrown v_t_songs v_t_people v_t_forgetsAt v_t_fillsAt v_t_taped o_t_faultKind o_t_faultPlace v_t_long1 o_t_next0 o_t_sort o_t_place o_t_long0 o_t_value o_t_sign o_t_word v_t_newSongs v_t_newPeople v_t_newForgetsAt v_t_newFillsAt v_t_top v_t_firstValue v_t_lastValue v_t_waiting v_t_depth v_t_acts v_t_isWinter v_t_learntNow v_t_forgottenNow v_t_heardMany v_t_its0 v_t_hasImage v_t_imageActs v_t_imageHeard r_t_tape) (some (.int rr)) := by
  refine Met.ofW (cc := cX12_number) (maxL := 4) (ret := (some .int)) (by decide) rfl ?_
  intro p e s m args below meth c s₁ B hml hv
  obtain ⟨rfl, hP, hk, hD0⟩ := hv
  have X0 : gs_X wsX12_number cX12_number RX12 4 (some .int) p s m ([.ref a_t, .int x1, .int x2] : List Value).toArray meth c := gs_X.of B hml
  obtain ⟨hx, hb, -, hown, hts, hr, hlk⟩ := id X0
  have hD := (gs_D_self hD0)
  generalize hAe : gs_w (w_X12_number E a_t a_t_tape a_t_songLong a_t_firstNote a_t_wit a_t_code a_t_refused a_t_newSongLong a_t_newFirstNote a_t_newWit a_t_newRow a_t_readCode a_t_waits a_t_tested a_t_isTold a_t_rows a_t_ahead a_t_told a_t_pile a_t_common a_t_mostOf a_t_likes a_t_heard a_t_soon a_t_soonAll a_t_imageRow a_t_imageAhead a_t_imageHears v_t_thrown v_t_songs v_t_people v_t_forgetsAt v_t_fillsAt v_t_taped v_t_faultKind v_t_faultPlace v_t_long1 v_t_next0 v_t_sort v_t_place v_t_long0 v_t_value v_t_sign v_t_word v_t_newSongs v_t_newPeople v_t_newForgetsAt v_t_newFillsAt v_t_top v_t_firstValue v_t_lastValue v_t_waiting v_t_depth v_t_acts v_t_isWinter v_t_learntNow v_t_forgottenNow v_t_heardMany v_t_its0 v_t_hasImage v_t_imageActs v_t_imageHeard r_t_tape) = A at hD ⊢
  have hS : va_S A s.heap s.heap [] := va_S.rf
  have hret : ∀ (H : Heap) (locs : List Loc) (pc : Nat) (ls : Array Slot), va_P E.1 vwCl (w_X12_number E a_t a_t_tape a_t_songLong a_t_firstNote a_t_wit a_t_code a_t_refused a_t_newSongLong a_t_newFirstNote a_t_newWit a_t_newRow a_t_readCode a_t_waits a_t_tested a_t_isTold a_t_rows a_t_ahead a_t_told a_t_pile a_t_common a_t_mostOf a_t_likes a_t_heard a_t_soon a_t_soonAll a_t_imageRow a_t_imageAhead a_t_imageHears v_t_thrown v_t_songs v_t_people v_t_forgetsAt v_t_fillsAt v_t_taped o_t_faultKind o_t_faultPlace v_t_long1 o_t_next0 o_t_sort o_t_place o_t_long0 o_t_value o_t_sign o_t_word v_t_newSongs v_t_newPeople v_t_newForgetsAt v_t_newFillsAt v_t_top v_t_firstValue v_t_lastValue v_t_waiting v_t_depth v_t_acts v_t_isWinter v_t_learntNow v_t_forgottenNow v_t_heardMany v_t_its0 v_t_hasImage v_t_imageActs v_t_imageHeard r_t_tape) H → va_S A s.heap H locs → decode cX12_number pc = .ok (.ireturn, 1) → W p l e rm_X12_number s m ([.ref a_t, .int x1, .int x2] : List Value).toArray below meth c H locs 0 0 (MQ below (gs_QWA E A (w_X12_number E a_t a_t_tape a_t_songLong a_t_firstNote a_t_wit a_t_code a_t_refused a_t_newSongLong a_t_newFirstNote a_t_newWit a_t_newRow a_t_readCode a_t_waits a_t_tested a_t_isTold a_t_rows a_t_ahead a_t_told a_t_pile a_t_common a_t_mostOf a_t_likes a_t_heard a_t_soon a_t_soonAll a_t_imageRow a_t_imageAhead a_t_imageHears v_t_thrown v_t_songs v_t_people v_t_forgetsAt v_t_fillsAt v_t_taped o_t_faultKind o_t_faultPlace v_t_long1 o_t_next0 o_t_sort o_t_place o_t_long0 o_t_value o_t_sign o_t_word v_t_newSongs v_t_newPeople v_t_newForgetsAt v_t_newFillsAt v_t_top v_t_firstValue v_t_lastValue v_t_waiting v_t_depth v_t_acts v_t_isWinter v_t_learntNow v_t_forgottenNow v_t_heardMany v_t_its0 v_t_hasImage v_t_imageActs v_t_imageHeard r_t_tape) (some (.int rr))) ([.ref a_t, .int x1, .int x2] : List Value).toArray s 0 0 A) (F0 m pc ls [.int rr]) := fun H locs pc ls hP hS hd => W.iret hx hb hr (fun t ht hW => ⟨rfl, by rw [ht]; exact hP, hS.F ht⟩) hS.2.2 hd
  have hl := lv_entry ([.ref a_t, .int x1, .int x2]) (n := 4) (Nat.le_of_ble_eq_true rfl)
  rw [lg_entry_eq]
  generalize (lg_sl ([.ref a_t, .int x1, .int x2]) ++ List.replicate (4 - (lg_sl ([.ref a_t, .int x1, .int x2])).length) Slot.unset).toArray = ls at hl ⊢
  have hl : lv_has ls 4 [(0, .ref a_t), (1, .int x1), (2, .int x2)] := hl
  unfold f_X12_number at h
  refine lv_aload_n hx hb dX12_number_0 rfl (lv_at hl 0 rfl) ?_
  obtain ⟨r1, hz1, h⟩ := gs_b1_e h
  refine gs_backRi (va_runV (As := []) (rest := []) ⟨hx, hb, hml, hown, hts⟩ (c_X12_isGood l E a_t a_t_songLong a_t_firstNote a_t_wit a_t_code a_t_tape a_t_refused a_t_newSongLong a_t_newFirstNote a_t_newWit a_t_newRow a_t_readCode a_t_waits a_t_tested a_t_isTold a_t_rows a_t_ahead a_t_told a_t_pile a_t_common a_t_mostOf a_t_likes a_t_heard a_t_soon a_t_soonAll a_t_imageRow a_t_imageAhead a_t_imageHears v_t_thrown v_t_songs v_t_people v_t_forgetsAt v_t_fillsAt v_t_taped v_t_faultKind v_t_faultPlace v_t_long1 v_t_next0 v_t_sort v_t_place v_t_long0 v_t_value v_t_sign v_t_word v_t_newSongs v_t_newPeople v_t_newForgetsAt v_t_newFillsAt v_t_top v_t_firstValue v_t_lastValue v_t_waiting v_t_depth v_t_acts v_t_isWinter v_t_learntNow v_t_forgottenNow v_t_heardMany v_t_its0 v_t_hasImage v_t_imageActs v_t_imageHeard r1 hz1) (cwV 0 hts gX12_number_X12_isGood rfl rfl rfl (by decide +kernel) ⟨Nat.le_of_ble_eq_true rfl, Nat.le_of_ble_eq_true rfl⟩) (gs_preV (ci := 12) hk hP hD (is := [0]) rfl rfl rfl rfl) rfl rfl hl.1 rfl (lv_room (Nat.le_of_ble_eq_true rfl)) dX12_number_1 ⟨Nat.zero_le _, Nat.zero_le _⟩) ?_
  refine lv_if_ne (tgt := 9) hx hb dX12_number_4 (by decide) (fun c2 => ?_) (fun c2 => ?_)
  · replace h := gs_iff c2 h
    refine lv_aload_n hx hb dX12_number_9 rfl (lv_at hl 0 rfl) ?_
    refine va_get (D := E.1) (ci := 12) (v := .int v_t_sort) (C := RX12) (T := TX12) (N := 61) hx hb hts (fun _ h => (List.mem_cons_of_mem _ (List.mem_append_right _ h))) hown hk.1 hP 0 rfl rfl 16 (by decide) (hts (.fieldLink RX12 135 "GapSongsModel" "sort" "I") (List.mem_cons_of_mem _ (List.mem_append_left _ (List.mem_append_left _ (List.mem_of_getElem? (i := 0) rfl))))) (fun _ h9 => h9) rfl dX12_number_10 ?_
    refine lv_iconst (v := 2) hx hb dX12_number_13 (by decide) ?_
    refine lv_icmp_eq (tgt := 25) hx hb dX12_number_14 (by decide) (fun c3 => ?_) (fun c3 => ?_)
    · replace h := gs_ift c3 h
      refine lv_aload_n hx hb dX12_number_25 rfl (lv_at hl 0 rfl) ?_
      refine va_get (D := E.1) (ci := 12) (v := .int v_t_long0) (C := RX12) (T := TX12) (N := 61) hx hb hts (fun _ h => (List.mem_cons_of_mem _ (List.mem_append_right _ h))) hown hk.1 hP 0 rfl rfl 18 (by decide) (hts (.fieldLink RX12 145 "GapSongsModel" "long0" "I") (List.mem_cons_of_mem _ (List.mem_append_left _ (List.mem_append_left _ (List.mem_of_getElem? (i := 1) rfl))))) (fun _ h9 => h9) rfl dX12_number_26 ?_
      refine lv_iconst (v := 4) hx hb dX12_number_29 (by decide) ?_
      refine lv_icmp_gt (tgt := 49) hx hb dX12_number_30 (by decide) (fun c4 => ?_) (fun c4 => ?_)
      · replace h := gs_ift c4 h
        exact t_X12_number_49 X0 hk  hret  (h := h) _ _ _ hP hD hS (lv_sub hl [0] rfl)
      · replace h := gs_iff c4 h
        refine lv_aload_n hx hb dX12_number_33 rfl (lv_at hl 0 rfl) ?_
        refine va_get (D := E.1) (ci := 12) (v := .int v_t_value) (C := RX12) (T := TX12) (N := 61) hx hb hts (fun _ h => (List.mem_cons_of_mem _ (List.mem_append_right _ h))) hown hk.1 hP 0 rfl rfl 19 (by decide) (hts (.fieldLink RX12 129 "GapSongsModel" "value" "I") (List.mem_cons_of_mem _ (List.mem_append_left _ (List.mem_append_left _ (List.mem_of_getElem? (i := 2) rfl))))) (fun _ h9 => h9) rfl dX12_number_34 ?_
        refine lv_iload_n hx hb dX12_number_37 rfl (lv_at hl 1 rfl) ?_
        refine lv_icmp_lt (tgt := 49) hx hb dX12_number_38 (by decide) (fun c9 => ?_) (fun c9 => ?_)
        · replace h := gs_ift c9 h
          exact t_X12_number_49 X0 hk  hret  (h := h) _ _ _ hP hD hS (lv_sub hl [0] rfl)
        · replace h := gs_iff c9 h
          refine lv_aload_n hx hb dX12_number_41 rfl (lv_at hl 0 rfl) ?_
          refine va_get (D := E.1) (ci := 12) (v := .int v_t_value) (C := RX12) (T := TX12) (N := 61) hx hb hts (fun _ h => (List.mem_cons_of_mem _ (List.mem_append_right _ h))) hown hk.1 hP 0 rfl rfl 19 (by decide) (hts (.fieldLink RX12 129 "GapSongsModel" "value" "I") (List.mem_cons_of_mem _ (List.mem_append_left _ (List.mem_append_left _ (List.mem_of_getElem? (i := 2) rfl))))) (fun _ h9 => h9) rfl dX12_number_42 ?_
          refine lv_iload_n hx hb dX12_number_45 rfl (lv_at hl 2 rfl) ?_
          refine lv_icmp_le (tgt := 54) hx hb dX12_number_46 (by decide) (fun c10 => ?_) (fun c10 => ?_)
          · replace h := gs_ift c10 h
            exact t_X12_number_54 X0 hk  hret  (h := h) _ _ _ hP hD hS (lv_sub hl [0] rfl)
          · replace h := gs_iff c10 h
            exact t_X12_number_49 X0 hk  hret  (h := h) _ _ _ hP hD hS (lv_sub hl [0] rfl)
    · replace h := gs_iff c3 h
      refine lv_aload_n hx hb dX12_number_17 rfl (lv_at hl 0 rfl) ?_
      refine lv_iconst (v := 1) hx hb dX12_number_18 (by decide) ?_
      obtain ⟨o11_0, o11_1, hz11, h⟩ := gs_b2_e h
      refine gs_backWv (ws1 := (w_X12_number E a_t a_t_tape a_t_songLong a_t_firstNote a_t_wit a_t_code a_t_refused a_t_newSongLong a_t_newFirstNote a_t_newWit a_t_newRow a_t_readCode a_t_waits a_t_tested a_t_isTold a_t_rows a_t_ahead a_t_told a_t_pile a_t_common a_t_mostOf a_t_likes a_t_heard a_t_soon a_t_soonAll a_t_imageRow a_t_imageAhead a_t_imageHears v_t_thrown v_t_songs v_t_people v_t_forgetsAt v_t_fillsAt v_t_taped o11_0 o11_1 v_t_long1 v_t_next0 v_t_sort v_t_place v_t_long0 v_t_value v_t_sign v_t_word v_t_newSongs v_t_newPeople v_t_newForgetsAt v_t_newFillsAt v_t_top v_t_firstValue v_t_lastValue v_t_waiting v_t_depth v_t_acts v_t_isWinter v_t_learntNow v_t_forgottenNow v_t_heardMany v_t_its0 v_t_hasImage v_t_imageActs v_t_imageHeard r_t_tape)) (va_runV (As := [.int 1]) (rest := []) ⟨hx, hb, hml, hown, hts⟩ (c_X12_wrong l E a_t a_t_songLong a_t_firstNote a_t_wit a_t_code a_t_tape a_t_refused a_t_newSongLong a_t_newFirstNote a_t_newWit a_t_newRow a_t_readCode a_t_waits a_t_tested a_t_isTold a_t_rows a_t_ahead a_t_told a_t_pile a_t_common a_t_mostOf a_t_likes a_t_heard a_t_soon a_t_soonAll a_t_imageRow a_t_imageAhead a_t_imageHears v_t_thrown v_t_songs v_t_people v_t_forgetsAt v_t_fillsAt v_t_taped v_t_faultKind v_t_faultPlace v_t_long1 v_t_next0 v_t_sort v_t_place v_t_long0 v_t_value v_t_sign v_t_word v_t_newSongs v_t_newPeople v_t_newForgetsAt v_t_newFillsAt v_t_top v_t_firstValue v_t_lastValue v_t_waiting v_t_depth v_t_acts v_t_isWinter v_t_learntNow v_t_forgottenNow v_t_heardMany v_t_its0 v_t_hasImage v_t_imageActs v_t_imageHeard 1 o11_0 o11_1 hz11) (cwV 1 hts gX12_number_X12_wrong rfl rfl rfl (by decide +kernel) ⟨Nat.le_of_ble_eq_true rfl, Nat.le_of_ble_eq_true rfl⟩) (gs_preV (ci := 12) hk hP hD (is := [0]) rfl rfl rfl rfl) rfl rfl hl.1 rfl (lv_room (Nat.le_of_ble_eq_true rfl)) dX12_number_19 ⟨Nat.zero_le _, Nat.zero_le _⟩) hP hD hS [0] rfl rfl rfl rfl (fun H locs hP hD hS => ?_)
      refine lv_goto (tgt := 54) hx hb dX12_number_22 (by decide) ?_
      exact t_X12_number_54 X0 hk  hret  (h := h) _ _ _ hP hD hS (lv_sub hl [0] rfl)
  · replace h := gs_ift c2 h
    refine lv_iconst (v := 0) hx hb dX12_number_7 (by decide) ?_
    have h := Option.some.inj h
    obtain ⟨w0, h⟩ := Prod.mk.inj h
    obtain ⟨w1, h⟩ := Prod.mk.inj h
    obtain ⟨w2, h⟩ := Prod.mk.inj h
    obtain ⟨w3, h⟩ := Prod.mk.inj h
    obtain ⟨w4, h⟩ := Prod.mk.inj h
    obtain ⟨w5, h⟩ := Prod.mk.inj h
    obtain ⟨w6, h⟩ := Prod.mk.inj h
    obtain ⟨w7, h⟩ := Prod.mk.inj h
    obtain ⟨w8, h⟩ := Prod.mk.inj h
    subst h
    subst w0
    subst w1
    subst w2
    subst w3
    subst w4
    subst w5
    subst w6
    subst w7
    subst w8
    exact hret _ _ _ _ hP hS dX12_number_8

set_option maxRecDepth 100000 in
theorem ggX12_isOneOf_X12_isGood : GoodIn wsX12_isOneOf wsX12_isGood := goodIn_r _ [8, 9, 16, 17, 18, 19, 20, 21, 22, 23, 24, 25, 26, 27, 28, 29, 30, 31, 32, 33, 34, 35, 36, 37, 38, 39, 40, 41, 42, 43, 44, 45, 46, 47, 48, 49, 50, 51, 52, 53, 54, 55, 56, 57, 58, 59, 60, 61, 62, 63, 64, 65, 66, 67, 68, 69, 70, 71, 72, 73, 74, 75, 76] rfl (by decide +kernel)
set_option maxRecDepth 100000 in
theorem gX12_isOneOf_X12_isGood : GoodIn wsX12_isOneOf (wsV RX12 161 RX12 yX12_isGood wsX12_isGood) := goodIn_app (goodIn_of _ (by decide +kernel)) ggX12_isOneOf_X12_isGood
set_option maxRecDepth 100000 in
theorem ggX12_isOneOf_X12_wrong : GoodIn wsX12_isOneOf wsX12_wrong := goodIn_r _ [13, 9, 14, 15, 16, 17, 18, 19, 20, 21, 22, 23, 24, 25, 26, 27, 28, 29, 30, 31, 32, 33, 34, 35, 36, 37, 38, 39, 40, 41, 42, 43, 44, 45, 46, 47, 48, 49, 50, 51, 52, 53, 54, 55, 56, 57, 58, 59, 60, 61, 62, 63, 64, 65, 66, 67, 68, 69, 70, 71, 72, 73, 74, 75, 76] rfl (by decide +kernel)
set_option maxRecDepth 100000 in
theorem gX12_isOneOf_X12_wrong : GoodIn wsX12_isOneOf (wsV RX12 168 RX12 yX12_wrong wsX12_wrong) := goodIn_app (goodIn_of _ (by decide +kernel)) ggX12_isOneOf_X12_wrong
theorem dX12_isOneOf_0 : decode cX12_isOneOf 0 = .ok (.aload_n 0, 1) := by decide +kernel
theorem dX12_isOneOf_1 : decode cX12_isOneOf 1 = .ok (.invokevirtual 161, 3) := by decide +kernel
theorem dX12_isOneOf_4 : decode cX12_isOneOf 4 = .ok (.ifCond .ne 5, 3) := by decide +kernel
theorem dX12_isOneOf_7 : decode cX12_isOneOf 7 = .ok (.iconst 0, 1) := by decide +kernel
theorem dX12_isOneOf_8 : decode cX12_isOneOf 8 = .ok (.ireturn, 1) := by decide +kernel
theorem dX12_isOneOf_9 : decode cX12_isOneOf 9 = .ok (.aload_n 0, 1) := by decide +kernel
theorem dX12_isOneOf_10 : decode cX12_isOneOf 10 = .ok (.getfield 135, 3) := by decide +kernel
theorem dX12_isOneOf_13 : decode cX12_isOneOf 13 = .ok (.iconst 2, 1) := by decide +kernel
theorem dX12_isOneOf_14 : decode cX12_isOneOf 14 = .ok (.if_icmp .eq 11, 3) := by decide +kernel
theorem dX12_isOneOf_17 : decode cX12_isOneOf 17 = .ok (.aload_n 0, 1) := by decide +kernel
theorem dX12_isOneOf_18 : decode cX12_isOneOf 18 = .ok (.iconst 1, 1) := by decide +kernel
theorem dX12_isOneOf_19 : decode cX12_isOneOf 19 = .ok (.invokevirtual 168, 3) := by decide +kernel
theorem dX12_isOneOf_22 : decode cX12_isOneOf 22 = .ok (.goto 32, 3) := by decide +kernel
theorem dX12_isOneOf_25 : decode cX12_isOneOf 25 = .ok (.aload_n 0, 1) := by decide +kernel
theorem dX12_isOneOf_26 : decode cX12_isOneOf 26 = .ok (.getfield 145, 3) := by decide +kernel
theorem dX12_isOneOf_29 : decode cX12_isOneOf 29 = .ok (.iconst 4, 1) := by decide +kernel
theorem dX12_isOneOf_30 : decode cX12_isOneOf 30 = .ok (.if_icmp .le 11, 3) := by decide +kernel
theorem dX12_isOneOf_33 : decode cX12_isOneOf 33 = .ok (.aload_n 0, 1) := by decide +kernel
theorem dX12_isOneOf_34 : decode cX12_isOneOf 34 = .ok (.iconst 2, 1) := by decide +kernel
theorem dX12_isOneOf_35 : decode cX12_isOneOf 35 = .ok (.invokevirtual 168, 3) := by decide +kernel
theorem dX12_isOneOf_38 : decode cX12_isOneOf 38 = .ok (.goto 16, 3) := by decide +kernel
theorem dX12_isOneOf_41 : decode cX12_isOneOf 41 = .ok (.aload_n 0, 1) := by decide +kernel
theorem dX12_isOneOf_42 : decode cX12_isOneOf 42 = .ok (.getfield 129, 3) := by decide +kernel
theorem dX12_isOneOf_45 : decode cX12_isOneOf 45 = .ok (.iload_n 1, 1) := by decide +kernel
theorem dX12_isOneOf_46 : decode cX12_isOneOf 46 = .ok (.if_icmp .lt 8, 3) := by decide +kernel
theorem dX12_isOneOf_49 : decode cX12_isOneOf 49 = .ok (.aload_n 0, 1) := by decide +kernel
theorem dX12_isOneOf_50 : decode cX12_isOneOf 50 = .ok (.iconst 3, 1) := by decide +kernel
theorem dX12_isOneOf_51 : decode cX12_isOneOf 51 = .ok (.invokevirtual 168, 3) := by decide +kernel
theorem dX12_isOneOf_54 : decode cX12_isOneOf 54 = .ok (.aload_n 0, 1) := by decide +kernel
theorem dX12_isOneOf_55 : decode cX12_isOneOf 55 = .ok (.invokevirtual 161, 3) := by decide +kernel
theorem dX12_isOneOf_58 : decode cX12_isOneOf 58 = .ok (.ireturn, 1) := by decide +kernel
abbrev w_X12_isOneOf (E : gs_E) (a_t a_t_songLong a_t_firstNote a_t_wit a_t_code a_t_tape a_t_refused a_t_newSongLong a_t_newFirstNote a_t_newWit a_t_newRow a_t_readCode a_t_waits a_t_tested a_t_isTold a_t_rows a_t_ahead a_t_told a_t_pile a_t_common a_t_mostOf a_t_likes a_t_heard a_t_soon a_t_soonAll a_t_imageRow a_t_imageAhead a_t_imageHears : Nat) (v_t_thrown : Int32) (v_t_songs : Int32) (v_t_people : Int32) (v_t_forgetsAt : Int32) (v_t_fillsAt : Int32) (v_t_taped : Int32) (v_t_faultKind : Int32) (v_t_faultPlace : Int32) (v_t_long1 : Int32) (v_t_next0 : Int32) (v_t_sort : Int32) (v_t_place : Int32) (v_t_long0 : Int32) (v_t_value : Int32) (v_t_sign : Int32) (v_t_word : Int64) (v_t_newSongs : Int32) (v_t_newPeople : Int32) (v_t_newForgetsAt : Int32) (v_t_newFillsAt : Int32) (v_t_top : Int32) (v_t_firstValue : Int32) (v_t_lastValue : Int32) (v_t_waiting : Int32) (v_t_depth : Int32) (v_t_acts : Int32) (v_t_isWinter : Int32) (v_t_learntNow : Int32) (v_t_forgottenNow : Int32) (v_t_heardMany : Int32) (v_t_its0 : Int32) (v_t_hasImage : Int32) (v_t_imageActs : Int32) (v_t_imageHeard : Int32) : va_W := [(a_t, .inr (12, [.int v_t_thrown, .int v_t_songs, .int v_t_people, .int v_t_forgetsAt, .int v_t_fillsAt, .ref a_t_songLong, .ref a_t_firstNote, .ref a_t_wit, .ref a_t_code, .ref a_t_tape, .int v_t_taped, .int v_t_faultKind, .int v_t_faultPlace, .ref a_t_refused, .int v_t_long1, .int v_t_next0, .int v_t_sort, .int v_t_place, .int v_t_long0, .int v_t_value, .int v_t_sign, .long v_t_word, .int v_t_newSongs, .int v_t_newPeople, .int v_t_newForgetsAt, .int v_t_newFillsAt, .int v_t_top, .int v_t_firstValue, .int v_t_lastValue, .int v_t_waiting, .int v_t_depth, .ref a_t_newSongLong, .ref a_t_newFirstNote, .ref a_t_newWit, .ref a_t_newRow, .ref a_t_readCode, .ref a_t_waits, .ref a_t_tested, .ref a_t_isTold, .ref a_t_rows, .ref a_t_ahead, .int v_t_acts, .ref a_t_told, .ref a_t_pile, .int v_t_isWinter, .int v_t_learntNow, .int v_t_forgottenNow, .ref a_t_common, .ref a_t_mostOf, .ref a_t_likes, .int v_t_heardMany, .ref a_t_heard, .ref a_t_soon, .ref a_t_soonAll, .int v_t_its0, .int v_t_hasImage, .int v_t_imageActs, .int v_t_imageHeard, .ref a_t_imageRow, .ref a_t_imageAhead, .ref a_t_imageHears]))]
abbrev rm_X12_isOneOf : Room := { frames := 1, cells := 0, slots := 0, locals := 21 }
def S_X12_isOneOf_54 (p : Program) (l : Launch) (e : Env) (s : State) (m : MethodId) (args : Array Value) (below : List Frame) (meth : Method) (c : Code) (Q : State → Prop) (a_t a_t_songLong a_t_firstNote a_t_wit a_t_code a_t_tape a_t_refused a_t_newSongLong a_t_newFirstNote a_t_newWit a_t_newRow a_t_readCode a_t_waits a_t_tested a_t_isTold a_t_rows a_t_ahead a_t_told a_t_pile a_t_common a_t_mostOf a_t_likes a_t_heard a_t_soon a_t_soonAll a_t_imageRow a_t_imageAhead a_t_imageHears : Nat) (E : gs_E) (A : Nat → Prop) (v_t_thrown : Int32) (v_t_songs : Int32) (v_t_people : Int32) (v_t_forgetsAt : Int32) (v_t_fillsAt : Int32) (v_t_taped : Int32) (v_t_faultKind : Int32) (v_t_faultPlace : Int32) (v_t_long1 : Int32) (v_t_next0 : Int32) (v_t_sort : Int32) (v_t_place : Int32) (v_t_long0 : Int32) (v_t_value : Int32) (v_t_sign : Int32) (v_t_word : Int64) (v_t_newSongs : Int32) (v_t_newPeople : Int32) (v_t_newForgetsAt : Int32) (v_t_newFillsAt : Int32) (v_t_top : Int32) (v_t_firstValue : Int32) (v_t_lastValue : Int32) (v_t_waiting : Int32) (v_t_depth : Int32) (v_t_acts : Int32) (v_t_isWinter : Int32) (v_t_learntNow : Int32) (v_t_forgottenNow : Int32) (v_t_heardMany : Int32) (v_t_its0 : Int32) (v_t_hasImage : Int32) (v_t_imageActs : Int32) (v_t_imageHeard : Int32) : Prop := ∀ (H : Heap) (locs : List Loc) (ls : Array Slot), va_P E.1 vwCl (w_X12_isOneOf E a_t a_t_songLong a_t_firstNote a_t_wit a_t_code a_t_tape a_t_refused a_t_newSongLong a_t_newFirstNote a_t_newWit a_t_newRow a_t_readCode a_t_waits a_t_tested a_t_isTold a_t_rows a_t_ahead a_t_told a_t_pile a_t_common a_t_mostOf a_t_likes a_t_heard a_t_soon a_t_soonAll a_t_imageRow a_t_imageAhead a_t_imageHears v_t_thrown v_t_songs v_t_people v_t_forgetsAt v_t_fillsAt v_t_taped v_t_faultKind v_t_faultPlace v_t_long1 v_t_next0 v_t_sort v_t_place v_t_long0 v_t_value v_t_sign v_t_word v_t_newSongs v_t_newPeople v_t_newForgetsAt v_t_newFillsAt v_t_top v_t_firstValue v_t_lastValue v_t_waiting v_t_depth v_t_acts v_t_isWinter v_t_learntNow v_t_forgottenNow v_t_heardMany v_t_its0 v_t_hasImage v_t_imageActs v_t_imageHeard) H → va_D A (w_X12_isOneOf E a_t a_t_songLong a_t_firstNote a_t_wit a_t_code a_t_tape a_t_refused a_t_newSongLong a_t_newFirstNote a_t_newWit a_t_newRow a_t_readCode a_t_waits a_t_tested a_t_isTold a_t_rows a_t_ahead a_t_told a_t_pile a_t_common a_t_mostOf a_t_likes a_t_heard a_t_soon a_t_soonAll a_t_imageRow a_t_imageAhead a_t_imageHears v_t_thrown v_t_songs v_t_people v_t_forgetsAt v_t_fillsAt v_t_taped v_t_faultKind v_t_faultPlace v_t_long1 v_t_next0 v_t_sort v_t_place v_t_long0 v_t_value v_t_sign v_t_word v_t_newSongs v_t_newPeople v_t_newForgetsAt v_t_newFillsAt v_t_top v_t_firstValue v_t_lastValue v_t_waiting v_t_depth v_t_acts v_t_isWinter v_t_learntNow v_t_forgottenNow v_t_heardMany v_t_its0 v_t_hasImage v_t_imageActs v_t_imageHeard) → va_S A s.heap H locs → lv_has ls 2 [(0, .ref a_t)] → W p l e rm_X12_isOneOf s m args below meth c H locs 0 0 Q (F0 m 54 ls [])
def f_X12_isOneOf_54 (v_t_faultKind : Int32) (v_t_faultPlace : Int32) : Option (Int32 × Int32 × Int32) :=
  gs_b1 (f_X12_isGood v_t_faultKind) fun r6 =>
  gs_gd (gs_bz r6) <|
  some (r6, v_t_faultKind, v_t_faultPlace)
set_option maxHeartbeats 4000000 in
set_option maxRecDepth 100000 in
theorem t_X12_isOneOf_54 {p : Program} {l : Launch} {e : Env} {s : State} {m : MethodId} {args : Array Value} {below : List Frame} {meth : Method} {c : Code} {Q : State → Prop} {E : gs_E} {A : Nat → Prop} {a_t a_t_songLong a_t_firstNote a_t_wit a_t_code a_t_tape a_t_refused a_t_newSongLong a_t_newFirstNote a_t_newWit a_t_newRow a_t_readCode a_t_waits a_t_tested a_t_isTold a_t_rows a_t_ahead a_t_told a_t_pile a_t_common a_t_mostOf a_t_likes a_t_heard a_t_soon a_t_soonAll a_t_imageRow a_t_imageAhead a_t_imageHears : Nat} {rr : Int32} {o_t_faultKind : Int32} {o_t_faultPlace : Int32} (X0 : gs_X wsX12_isOneOf cX12_isOneOf RX12 2 (some .boolean) p s m args meth c) (hk : gs_K E s) {v_t_thrown : Int32} {v_t_songs : Int32} {v_t_people : Int32} {v_t_forgetsAt : Int32} {v_t_fillsAt : Int32} {v_t_taped : Int32} {v_t_faultKind : Int32} {v_t_faultPlace : Int32} {v_t_long1 : Int32} {v_t_next0 : Int32} {v_t_sort : Int32} {v_t_place : Int32} {v_t_long0 : Int32} {v_t_value : Int32} {v_t_sign : Int32} {v_t_word : Int64} {v_t_newSongs : Int32} {v_t_newPeople : Int32} {v_t_newForgetsAt : Int32} {v_t_newFillsAt : Int32} {v_t_top : Int32} {v_t_firstValue : Int32} {v_t_lastValue : Int32} {v_t_waiting : Int32} {v_t_depth : Int32} {v_t_acts : Int32} {v_t_isWinter : Int32} {v_t_learntNow : Int32} {v_t_forgottenNow : Int32} {v_t_heardMany : Int32} {v_t_its0 : Int32} {v_t_hasImage : Int32} {v_t_imageActs : Int32} {v_t_imageHeard : Int32} (hret : ∀ (H : Heap) (locs : List Loc) (pc : Nat) (ls : Array Slot), va_P E.1 vwCl (w_X12_isOneOf E a_t a_t_songLong a_t_firstNote a_t_wit a_t_code a_t_tape a_t_refused a_t_newSongLong a_t_newFirstNote a_t_newWit a_t_newRow a_t_readCode a_t_waits a_t_tested a_t_isTold a_t_rows a_t_ahead a_t_told a_t_pile a_t_common a_t_mostOf a_t_likes a_t_heard a_t_soon a_t_soonAll a_t_imageRow a_t_imageAhead a_t_imageHears v_t_thrown v_t_songs v_t_people v_t_forgetsAt v_t_fillsAt v_t_taped o_t_faultKind o_t_faultPlace v_t_long1 v_t_next0 v_t_sort v_t_place v_t_long0 v_t_value v_t_sign v_t_word v_t_newSongs v_t_newPeople v_t_newForgetsAt v_t_newFillsAt v_t_top v_t_firstValue v_t_lastValue v_t_waiting v_t_depth v_t_acts v_t_isWinter v_t_learntNow v_t_forgottenNow v_t_heardMany v_t_its0 v_t_hasImage v_t_imageActs v_t_imageHeard) H → va_S A s.heap H locs → narrow .boolean (.int rr) = .int rr → decode cX12_isOneOf pc = .ok (.ireturn, 1) → W p l e rm_X12_isOneOf s m args below meth c H locs 0 0 Q (F0 m pc ls [.int rr])) (h : f_X12_isOneOf_54 v_t_faultKind v_t_faultPlace = some (rr, o_t_faultKind, o_t_faultPlace)) : S_X12_isOneOf_54 p l e s m args below meth c Q a_t a_t_songLong a_t_firstNote a_t_wit a_t_code a_t_tape a_t_refused a_t_newSongLong a_t_newFirstNote a_t_newWit a_t_newRow a_t_readCode a_t_waits a_t_tested a_t_isTold a_t_rows a_t_ahead a_t_told a_t_pile a_t_common a_t_mostOf a_t_likes a_t_heard a_t_soon a_t_soonAll a_t_imageRow a_t_imageAhead a_t_imageHears E A v_t_thrown v_t_songs v_t_people v_t_forgetsAt v_t_fillsAt v_t_taped v_t_faultKind v_t_faultPlace v_t_long1 v_t_next0 v_t_sort v_t_place v_t_long0 v_t_value v_t_sign v_t_word v_t_newSongs v_t_newPeople v_t_newForgetsAt v_t_newFillsAt v_t_top v_t_firstValue v_t_lastValue v_t_waiting v_t_depth v_t_acts v_t_isWinter v_t_learntNow v_t_forgottenNow v_t_heardMany v_t_its0 v_t_hasImage v_t_imageActs v_t_imageHeard := by
  obtain ⟨hx, hb, hml, hown, hts, hr, hlk⟩ := id X0
  intro H locs ls hP hD hS hl
  unfold f_X12_isOneOf_54 at h
  refine lv_aload_n hx hb dX12_isOneOf_54 rfl (lv_at hl 0 rfl) ?_
  obtain ⟨r6, hz6, h⟩ := gs_b1_e h
  refine gs_backRi (va_runV (As := []) (rest := []) ⟨hx, hb, hml, hown, hts⟩ (c_X12_isGood l E a_t a_t_songLong a_t_firstNote a_t_wit a_t_code a_t_tape a_t_refused a_t_newSongLong a_t_newFirstNote a_t_newWit a_t_newRow a_t_readCode a_t_waits a_t_tested a_t_isTold a_t_rows a_t_ahead a_t_told a_t_pile a_t_common a_t_mostOf a_t_likes a_t_heard a_t_soon a_t_soonAll a_t_imageRow a_t_imageAhead a_t_imageHears v_t_thrown v_t_songs v_t_people v_t_forgetsAt v_t_fillsAt v_t_taped v_t_faultKind v_t_faultPlace v_t_long1 v_t_next0 v_t_sort v_t_place v_t_long0 v_t_value v_t_sign v_t_word v_t_newSongs v_t_newPeople v_t_newForgetsAt v_t_newFillsAt v_t_top v_t_firstValue v_t_lastValue v_t_waiting v_t_depth v_t_acts v_t_isWinter v_t_learntNow v_t_forgottenNow v_t_heardMany v_t_its0 v_t_hasImage v_t_imageActs v_t_imageHeard r6 hz6) (cwV 0 hts gX12_isOneOf_X12_isGood rfl rfl rfl (by decide +kernel) ⟨Nat.le_of_ble_eq_true rfl, Nat.le_of_ble_eq_true rfl⟩) (gs_preV (ci := 12) hk hP hD (is := [0]) rfl rfl rfl rfl) rfl rfl hl.1 rfl (lv_room (Nat.le_of_ble_eq_true rfl)) dX12_isOneOf_55 ⟨Nat.zero_le _, Nat.zero_le _⟩) ?_
  obtain ⟨g7, h⟩ := gs_gd_e h
  have h := Option.some.inj h
  obtain ⟨w0, h⟩ := Prod.mk.inj h
  obtain ⟨w1, h⟩ := Prod.mk.inj h
  subst h
  subst w0
  subst w1
  exact hret _ _ _ _ hP hS (gs_bz_e g7) dX12_isOneOf_58
def f_X12_isOneOf (x1 : Int32) (v_t_faultKind : Int32) (v_t_faultPlace : Int32) (v_t_sort : Int32) (v_t_place : Int32) (v_t_long0 : Int32) (v_t_value : Int32) : Option (Int32 × Int32 × Int32) :=
  gs_b1 (f_X12_isGood v_t_faultKind) fun r1 =>
  if r1 = 0 then
    some (0, v_t_faultKind, v_t_faultPlace)
  else
    if v_t_sort = 2 then
      if v_t_long0 ≤ 4 then
        if v_t_value < x1 then
          f_X12_isOneOf_54 v_t_faultKind v_t_faultPlace
        else
          gs_b2 (f_X12_wrong 3 v_t_faultKind v_t_faultPlace v_t_place) fun o8_0 o8_1 =>
          f_X12_isOneOf_54 o8_0 o8_1
      else
        gs_b2 (f_X12_wrong 2 v_t_faultKind v_t_faultPlace v_t_place) fun o9_0 o9_1 =>
        f_X12_isOneOf_54 o9_0 o9_1
    else
      gs_b2 (f_X12_wrong 1 v_t_faultKind v_t_faultPlace v_t_place) fun o10_0 o10_1 =>
      f_X12_isOneOf_54 o10_0 o10_1
set_option maxHeartbeats 4000000 in
set_option maxRecDepth 100000 in
theorem c_X12_isOneOf (l : Launch) (E : gs_E) (a_t a_t_songLong a_t_firstNote a_t_wit a_t_code a_t_tape a_t_refused a_t_newSongLong a_t_newFirstNote a_t_newWit a_t_newRow a_t_readCode a_t_waits a_t_tested a_t_isTold a_t_rows a_t_ahead a_t_told a_t_pile a_t_common a_t_mostOf a_t_likes a_t_heard a_t_soon a_t_soonAll a_t_imageRow a_t_imageAhead a_t_imageHears : Nat) (v_t_thrown : Int32) (v_t_songs : Int32) (v_t_people : Int32) (v_t_forgetsAt : Int32) (v_t_fillsAt : Int32) (v_t_taped : Int32) (v_t_faultKind : Int32) (v_t_faultPlace : Int32) (v_t_long1 : Int32) (v_t_next0 : Int32) (v_t_sort : Int32) (v_t_place : Int32) (v_t_long0 : Int32) (v_t_value : Int32) (v_t_sign : Int32) (v_t_word : Int64) (v_t_newSongs : Int32) (v_t_newPeople : Int32) (v_t_newForgetsAt : Int32) (v_t_newFillsAt : Int32) (v_t_top : Int32) (v_t_firstValue : Int32) (v_t_lastValue : Int32) (v_t_waiting : Int32) (v_t_depth : Int32) (v_t_acts : Int32) (v_t_isWinter : Int32) (v_t_learntNow : Int32) (v_t_forgottenNow : Int32) (v_t_heardMany : Int32) (v_t_its0 : Int32) (v_t_hasImage : Int32) (v_t_imageActs : Int32) (v_t_imageHeard : Int32) (x1 : Int32) (rr : Int32) (o_t_faultKind : Int32) (o_t_faultPlace : Int32) (h : f_X12_isOneOf x1 v_t_faultKind v_t_faultPlace v_t_sort v_t_place v_t_long0 v_t_value = some (rr, o_t_faultKind, o_t_faultPlace)) : gs_MW l yX12_isOneOf wsX12_isOneOf rm_X12_isOneOf [.ref a_t, .int x1] E (w_X12_isOneOf E a_t a_t_songLong a_t_firstNote a_t_wit a_t_code a_t_tape a_t_refused a_t_newSongLong a_t_newFirstNote a_t_newWit a_t_newRow a_t_readCode a_t_waits a_t_tested a_t_isTold a_t_rows a_t_ahead a_t_told a_t_pile a_t_common a_t_mostOf a_t_likes a_t_heard a_t_soon a_t_soonAll a_t_imageRow a_t_imageAhead a_t_imageHears v_t_thrown v_t_songs v_t_people v_t_forgetsAt v_t_fillsAt v_t_taped v_t_faultKind v_t_faultPlace v_t_long1 v_t_next0 v_t_sort v_t_place v_t_long0 v_t_value v_t_sign v_t_word v_t_newSongs v_t_newPeople v_t_newForgetsAt v_t_newFillsAt v_t_top v_t_firstValue v_t_lastValue v_t_waiting v_t_depth v_t_acts v_t_isWinter v_t_learntNow v_t_forgottenNow v_t_heardMany v_t_its0 v_t_hasImage v_t_imageActs v_t_imageHeard) (w_X12_isOneOf E a_t a_t_songLong a_t_firstNote a_t_wit a_t_code a_t_tape a_t_refused a_t_newSongLong a_t_newFirstNote a_t_newWit a_t_newRow a_t_readCode a_t_waits a_t_tested a_t_isTold a_t_rows a_t_ahead a_t_told a_t_pile a_t_common a_t_mostOf a_t_likes a_t_heard a_t_soon a_t_soonAll a_t_imageRow a_t_imageAhead a_t_imageHears v_t_thrown v_t_songs v_t_people v_t_forgetsAt v_t_fillsAt v_t_taped o_t_faultKind o_t_faultPlace v_t_long1 v_t_next0 v_t_sort v_t_place v_t_long0 v_t_value v_t_sign v_t_word v_t_newSongs v_t_newPeople v_t_newForgetsAt v_t_newFillsAt v_t_top v_t_firstValue v_t_lastValue v_t_waiting v_t_depth v_t_acts v_t_isWinter v_t_learntNow v_t_forgottenNow v_t_heardMany v_t_its0 v_t_hasImage v_t_imageActs v_t_imageHeard) (some (.int rr)) := by
  refine Met.ofW (cc := cX12_isOneOf) (maxL := 2) (ret := (some .boolean)) (by decide) rfl ?_
  intro p e s m args below meth c s₁ B hml hv
  obtain ⟨rfl, hP, hk, hD0⟩ := hv
  have X0 : gs_X wsX12_isOneOf cX12_isOneOf RX12 2 (some .boolean) p s m ([.ref a_t, .int x1] : List Value).toArray meth c := gs_X.of B hml
  obtain ⟨hx, hb, -, hown, hts, hr, hlk⟩ := id X0
  have hD := (gs_D_self hD0)
  generalize hAe : gs_w (w_X12_isOneOf E a_t a_t_songLong a_t_firstNote a_t_wit a_t_code a_t_tape a_t_refused a_t_newSongLong a_t_newFirstNote a_t_newWit a_t_newRow a_t_readCode a_t_waits a_t_tested a_t_isTold a_t_rows a_t_ahead a_t_told a_t_pile a_t_common a_t_mostOf a_t_likes a_t_heard a_t_soon a_t_soonAll a_t_imageRow a_t_imageAhead a_t_imageHears v_t_thrown v_t_songs v_t_people v_t_forgetsAt v_t_fillsAt v_t_taped v_t_faultKind v_t_faultPlace v_t_long1 v_t_next0 v_t_sort v_t_place v_t_long0 v_t_value v_t_sign v_t_word v_t_newSongs v_t_newPeople v_t_newForgetsAt v_t_newFillsAt v_t_top v_t_firstValue v_t_lastValue v_t_waiting v_t_depth v_t_acts v_t_isWinter v_t_learntNow v_t_forgottenNow v_t_heardMany v_t_its0 v_t_hasImage v_t_imageActs v_t_imageHeard) = A at hD ⊢
  have hS : va_S A s.heap s.heap [] := va_S.rf
  have hret : ∀ (H : Heap) (locs : List Loc) (pc : Nat) (ls : Array Slot), va_P E.1 vwCl (w_X12_isOneOf E a_t a_t_songLong a_t_firstNote a_t_wit a_t_code a_t_tape a_t_refused a_t_newSongLong a_t_newFirstNote a_t_newWit a_t_newRow a_t_readCode a_t_waits a_t_tested a_t_isTold a_t_rows a_t_ahead a_t_told a_t_pile a_t_common a_t_mostOf a_t_likes a_t_heard a_t_soon a_t_soonAll a_t_imageRow a_t_imageAhead a_t_imageHears v_t_thrown v_t_songs v_t_people v_t_forgetsAt v_t_fillsAt v_t_taped o_t_faultKind o_t_faultPlace v_t_long1 v_t_next0 v_t_sort v_t_place v_t_long0 v_t_value v_t_sign v_t_word v_t_newSongs v_t_newPeople v_t_newForgetsAt v_t_newFillsAt v_t_top v_t_firstValue v_t_lastValue v_t_waiting v_t_depth v_t_acts v_t_isWinter v_t_learntNow v_t_forgottenNow v_t_heardMany v_t_its0 v_t_hasImage v_t_imageActs v_t_imageHeard) H → va_S A s.heap H locs → narrow .boolean (.int rr) = .int rr → decode cX12_isOneOf pc = .ok (.ireturn, 1) → W p l e rm_X12_isOneOf s m ([.ref a_t, .int x1] : List Value).toArray below meth c H locs 0 0 (MQ below (gs_QWA E A (w_X12_isOneOf E a_t a_t_songLong a_t_firstNote a_t_wit a_t_code a_t_tape a_t_refused a_t_newSongLong a_t_newFirstNote a_t_newWit a_t_newRow a_t_readCode a_t_waits a_t_tested a_t_isTold a_t_rows a_t_ahead a_t_told a_t_pile a_t_common a_t_mostOf a_t_likes a_t_heard a_t_soon a_t_soonAll a_t_imageRow a_t_imageAhead a_t_imageHears v_t_thrown v_t_songs v_t_people v_t_forgetsAt v_t_fillsAt v_t_taped o_t_faultKind o_t_faultPlace v_t_long1 v_t_next0 v_t_sort v_t_place v_t_long0 v_t_value v_t_sign v_t_word v_t_newSongs v_t_newPeople v_t_newForgetsAt v_t_newFillsAt v_t_top v_t_firstValue v_t_lastValue v_t_waiting v_t_depth v_t_acts v_t_isWinter v_t_learntNow v_t_forgottenNow v_t_heardMany v_t_its0 v_t_hasImage v_t_imageActs v_t_imageHeard) (some (.int rr))) ([.ref a_t, .int x1] : List Value).toArray s 0 0 A) (F0 m pc ls [.int rr]) := fun H locs pc ls hP hS hnar hd => W.zret hx hb hr hnar (fun t ht hW => ⟨rfl, by rw [ht]; exact hP, hS.F ht⟩) hS.2.2 hd
  have hl := lv_entry ([.ref a_t, .int x1]) (n := 2) (Nat.le_of_ble_eq_true rfl)
  rw [lg_entry_eq]
  generalize (lg_sl ([.ref a_t, .int x1]) ++ List.replicate (2 - (lg_sl ([.ref a_t, .int x1])).length) Slot.unset).toArray = ls at hl ⊢
  have hl : lv_has ls 2 [(0, .ref a_t), (1, .int x1)] := hl
  unfold f_X12_isOneOf at h
  refine lv_aload_n hx hb dX12_isOneOf_0 rfl (lv_at hl 0 rfl) ?_
  obtain ⟨r1, hz1, h⟩ := gs_b1_e h
  refine gs_backRi (va_runV (As := []) (rest := []) ⟨hx, hb, hml, hown, hts⟩ (c_X12_isGood l E a_t a_t_songLong a_t_firstNote a_t_wit a_t_code a_t_tape a_t_refused a_t_newSongLong a_t_newFirstNote a_t_newWit a_t_newRow a_t_readCode a_t_waits a_t_tested a_t_isTold a_t_rows a_t_ahead a_t_told a_t_pile a_t_common a_t_mostOf a_t_likes a_t_heard a_t_soon a_t_soonAll a_t_imageRow a_t_imageAhead a_t_imageHears v_t_thrown v_t_songs v_t_people v_t_forgetsAt v_t_fillsAt v_t_taped v_t_faultKind v_t_faultPlace v_t_long1 v_t_next0 v_t_sort v_t_place v_t_long0 v_t_value v_t_sign v_t_word v_t_newSongs v_t_newPeople v_t_newForgetsAt v_t_newFillsAt v_t_top v_t_firstValue v_t_lastValue v_t_waiting v_t_depth v_t_acts v_t_isWinter v_t_learntNow v_t_forgottenNow v_t_heardMany v_t_its0 v_t_hasImage v_t_imageActs v_t_imageHeard r1 hz1) (cwV 0 hts gX12_isOneOf_X12_isGood rfl rfl rfl (by decide +kernel) ⟨Nat.le_of_ble_eq_true rfl, Nat.le_of_ble_eq_true rfl⟩) (gs_preV (ci := 12) hk hP hD (is := [0]) rfl rfl rfl rfl) rfl rfl hl.1 rfl (lv_room (Nat.le_of_ble_eq_true rfl)) dX12_isOneOf_1 ⟨Nat.zero_le _, Nat.zero_le _⟩) ?_
  refine lv_if_ne (tgt := 9) hx hb dX12_isOneOf_4 (by decide) (fun c2 => ?_) (fun c2 => ?_)
  · replace h := gs_iff c2 h
    refine lv_aload_n hx hb dX12_isOneOf_9 rfl (lv_at hl 0 rfl) ?_
    refine va_get (D := E.1) (ci := 12) (v := .int v_t_sort) (C := RX12) (T := TX12) (N := 61) hx hb hts (fun _ h => (List.mem_cons_of_mem _ (List.mem_append_right _ h))) hown hk.1 hP 0 rfl rfl 16 (by decide) (hts (.fieldLink RX12 135 "GapSongsModel" "sort" "I") (List.mem_cons_of_mem _ (List.mem_append_left _ (List.mem_of_getElem? (i := 0) rfl)))) (fun _ h9 => h9) rfl dX12_isOneOf_10 ?_
    refine lv_iconst (v := 2) hx hb dX12_isOneOf_13 (by decide) ?_
    refine lv_icmp_eq (tgt := 25) hx hb dX12_isOneOf_14 (by decide) (fun c3 => ?_) (fun c3 => ?_)
    · replace h := gs_ift c3 h
      refine lv_aload_n hx hb dX12_isOneOf_25 rfl (lv_at hl 0 rfl) ?_
      refine va_get (D := E.1) (ci := 12) (v := .int v_t_long0) (C := RX12) (T := TX12) (N := 61) hx hb hts (fun _ h => (List.mem_cons_of_mem _ (List.mem_append_right _ h))) hown hk.1 hP 0 rfl rfl 18 (by decide) (hts (.fieldLink RX12 145 "GapSongsModel" "long0" "I") (List.mem_cons_of_mem _ (List.mem_append_left _ (List.mem_of_getElem? (i := 1) rfl)))) (fun _ h9 => h9) rfl dX12_isOneOf_26 ?_
      refine lv_iconst (v := 4) hx hb dX12_isOneOf_29 (by decide) ?_
      refine lv_icmp_le (tgt := 41) hx hb dX12_isOneOf_30 (by decide) (fun c4 => ?_) (fun c4 => ?_)
      · replace h := gs_ift c4 h
        refine lv_aload_n hx hb dX12_isOneOf_41 rfl (lv_at hl 0 rfl) ?_
        refine va_get (D := E.1) (ci := 12) (v := .int v_t_value) (C := RX12) (T := TX12) (N := 61) hx hb hts (fun _ h => (List.mem_cons_of_mem _ (List.mem_append_right _ h))) hown hk.1 hP 0 rfl rfl 19 (by decide) (hts (.fieldLink RX12 129 "GapSongsModel" "value" "I") (List.mem_cons_of_mem _ (List.mem_append_left _ (List.mem_of_getElem? (i := 2) rfl)))) (fun _ h9 => h9) rfl dX12_isOneOf_42 ?_
        refine lv_iload_n hx hb dX12_isOneOf_45 rfl (lv_at hl 1 rfl) ?_
        refine lv_icmp_lt (tgt := 54) hx hb dX12_isOneOf_46 (by decide) (fun c5 => ?_) (fun c5 => ?_)
        · replace h := gs_ift c5 h
          exact t_X12_isOneOf_54 X0 hk  hret  (h := h) _ _ _ hP hD hS (lv_sub hl [0] rfl)
        · replace h := gs_iff c5 h
          refine lv_aload_n hx hb dX12_isOneOf_49 rfl (lv_at hl 0 rfl) ?_
          refine lv_iconst (v := 3) hx hb dX12_isOneOf_50 (by decide) ?_
          obtain ⟨o8_0, o8_1, hz8, h⟩ := gs_b2_e h
          refine gs_backWv (ws1 := (w_X12_isOneOf E a_t a_t_songLong a_t_firstNote a_t_wit a_t_code a_t_tape a_t_refused a_t_newSongLong a_t_newFirstNote a_t_newWit a_t_newRow a_t_readCode a_t_waits a_t_tested a_t_isTold a_t_rows a_t_ahead a_t_told a_t_pile a_t_common a_t_mostOf a_t_likes a_t_heard a_t_soon a_t_soonAll a_t_imageRow a_t_imageAhead a_t_imageHears v_t_thrown v_t_songs v_t_people v_t_forgetsAt v_t_fillsAt v_t_taped o8_0 o8_1 v_t_long1 v_t_next0 v_t_sort v_t_place v_t_long0 v_t_value v_t_sign v_t_word v_t_newSongs v_t_newPeople v_t_newForgetsAt v_t_newFillsAt v_t_top v_t_firstValue v_t_lastValue v_t_waiting v_t_depth v_t_acts v_t_isWinter v_t_learntNow v_t_forgottenNow v_t_heardMany v_t_its0 v_t_hasImage v_t_imageActs v_t_imageHeard)) (va_runV (As := [.int 3]) (rest := []) ⟨hx, hb, hml, hown, hts⟩ (c_X12_wrong l E a_t a_t_songLong a_t_firstNote a_t_wit a_t_code a_t_tape a_t_refused a_t_newSongLong a_t_newFirstNote a_t_newWit a_t_newRow a_t_readCode a_t_waits a_t_tested a_t_isTold a_t_rows a_t_ahead a_t_told a_t_pile a_t_common a_t_mostOf a_t_likes a_t_heard a_t_soon a_t_soonAll a_t_imageRow a_t_imageAhead a_t_imageHears v_t_thrown v_t_songs v_t_people v_t_forgetsAt v_t_fillsAt v_t_taped v_t_faultKind v_t_faultPlace v_t_long1 v_t_next0 v_t_sort v_t_place v_t_long0 v_t_value v_t_sign v_t_word v_t_newSongs v_t_newPeople v_t_newForgetsAt v_t_newFillsAt v_t_top v_t_firstValue v_t_lastValue v_t_waiting v_t_depth v_t_acts v_t_isWinter v_t_learntNow v_t_forgottenNow v_t_heardMany v_t_its0 v_t_hasImage v_t_imageActs v_t_imageHeard 3 o8_0 o8_1 hz8) (cwV 1 hts gX12_isOneOf_X12_wrong rfl rfl rfl (by decide +kernel) ⟨Nat.le_of_ble_eq_true rfl, Nat.le_of_ble_eq_true rfl⟩) (gs_preV (ci := 12) hk hP hD (is := [0]) rfl rfl rfl rfl) rfl rfl hl.1 rfl (lv_room (Nat.le_of_ble_eq_true rfl)) dX12_isOneOf_51 ⟨Nat.zero_le _, Nat.zero_le _⟩) hP hD hS [0] rfl rfl rfl rfl (fun H locs hP hD hS => ?_)
          exact t_X12_isOneOf_54 X0 hk  hret  (h := h) _ _ _ hP hD hS (lv_sub hl [0] rfl)
      · replace h := gs_iff c4 h
        refine lv_aload_n hx hb dX12_isOneOf_33 rfl (lv_at hl 0 rfl) ?_
        refine lv_iconst (v := 2) hx hb dX12_isOneOf_34 (by decide) ?_
        obtain ⟨o9_0, o9_1, hz9, h⟩ := gs_b2_e h
        refine gs_backWv (ws1 := (w_X12_isOneOf E a_t a_t_songLong a_t_firstNote a_t_wit a_t_code a_t_tape a_t_refused a_t_newSongLong a_t_newFirstNote a_t_newWit a_t_newRow a_t_readCode a_t_waits a_t_tested a_t_isTold a_t_rows a_t_ahead a_t_told a_t_pile a_t_common a_t_mostOf a_t_likes a_t_heard a_t_soon a_t_soonAll a_t_imageRow a_t_imageAhead a_t_imageHears v_t_thrown v_t_songs v_t_people v_t_forgetsAt v_t_fillsAt v_t_taped o9_0 o9_1 v_t_long1 v_t_next0 v_t_sort v_t_place v_t_long0 v_t_value v_t_sign v_t_word v_t_newSongs v_t_newPeople v_t_newForgetsAt v_t_newFillsAt v_t_top v_t_firstValue v_t_lastValue v_t_waiting v_t_depth v_t_acts v_t_isWinter v_t_learntNow v_t_forgottenNow v_t_heardMany v_t_its0 v_t_hasImage v_t_imageActs v_t_imageHeard)) (va_runV (As := [.int 2]) (rest := []) ⟨hx, hb, hml, hown, hts⟩ (c_X12_wrong l E a_t a_t_songLong a_t_firstNote a_t_wit a_t_code a_t_tape a_t_refused a_t_newSongLong a_t_newFirstNote a_t_newWit a_t_newRow a_t_readCode a_t_waits a_t_tested a_t_isTold a_t_rows a_t_ahead a_t_told a_t_pile a_t_common a_t_mostOf a_t_likes a_t_heard a_t_soon a_t_soonAll a_t_imageRow a_t_imageAhead a_t_imageHears v_t_thrown v_t_songs v_t_people v_t_forgetsAt v_t_fillsAt v_t_taped v_t_faultKind v_t_faultPlace v_t_long1 v_t_next0 v_t_sort v_t_place v_t_long0 v_t_value v_t_sign v_t_word v_t_newSongs v_t_newPeople v_t_newForgetsAt v_t_newFillsAt v_t_top v_t_firstValue v_t_lastValue v_t_waiting v_t_depth v_t_acts v_t_isWinter v_t_learntNow v_t_forgottenNow v_t_heardMany v_t_its0 v_t_hasImage v_t_imageActs v_t_imageHeard 2 o9_0 o9_1 hz9) (cwV 1 hts gX12_isOneOf_X12_wrong rfl rfl rfl (by decide +kernel) ⟨Nat.le_of_ble_eq_true rfl, Nat.le_of_ble_eq_true rfl⟩) (gs_preV (ci := 12) hk hP hD (is := [0]) rfl rfl rfl rfl) rfl rfl hl.1 rfl (lv_room (Nat.le_of_ble_eq_true rfl)) dX12_isOneOf_35 ⟨Nat.zero_le _, Nat.zero_le _⟩) hP hD hS [0] rfl rfl rfl rfl (fun H locs hP hD hS => ?_)
        refine lv_goto (tgt := 54) hx hb dX12_isOneOf_38 (by decide) ?_
        exact t_X12_isOneOf_54 X0 hk  hret  (h := h) _ _ _ hP hD hS (lv_sub hl [0] rfl)
    · replace h := gs_iff c3 h
      refine lv_aload_n hx hb dX12_isOneOf_17 rfl (lv_at hl 0 rfl) ?_
      refine lv_iconst (v := 1) hx hb dX12_isOneOf_18 (by decide) ?_
      obtain ⟨o10_0, o10_1, hz10, h⟩ := gs_b2_e h
      refine gs_backWv (ws1 := (w_X12_isOneOf E a_t a_t_songLong a_t_firstNote a_t_wit a_t_code a_t_tape a_t_refused a_t_newSongLong a_t_newFirstNote a_t_newWit a_t_newRow a_t_readCode a_t_waits a_t_tested a_t_isTold a_t_rows a_t_ahead a_t_told a_t_pile a_t_common a_t_mostOf a_t_likes a_t_heard a_t_soon a_t_soonAll a_t_imageRow a_t_imageAhead a_t_imageHears v_t_thrown v_t_songs v_t_people v_t_forgetsAt v_t_fillsAt v_t_taped o10_0 o10_1 v_t_long1 v_t_next0 v_t_sort v_t_place v_t_long0 v_t_value v_t_sign v_t_word v_t_newSongs v_t_newPeople v_t_newForgetsAt v_t_newFillsAt v_t_top v_t_firstValue v_t_lastValue v_t_waiting v_t_depth v_t_acts v_t_isWinter v_t_learntNow v_t_forgottenNow v_t_heardMany v_t_its0 v_t_hasImage v_t_imageActs v_t_imageHeard)) (va_runV (As := [.int 1]) (rest := []) ⟨hx, hb, hml, hown, hts⟩ (c_X12_wrong l E a_t a_t_songLong a_t_firstNote a_t_wit a_t_code a_t_tape a_t_refused a_t_newSongLong a_t_newFirstNote a_t_newWit a_t_newRow a_t_readCode a_t_waits a_t_tested a_t_isTold a_t_rows a_t_ahead a_t_told a_t_pile a_t_common a_t_mostOf a_t_likes a_t_heard a_t_soon a_t_soonAll a_t_imageRow a_t_imageAhead a_t_imageHears v_t_thrown v_t_songs v_t_people v_t_forgetsAt v_t_fillsAt v_t_taped v_t_faultKind v_t_faultPlace v_t_long1 v_t_next0 v_t_sort v_t_place v_t_long0 v_t_value v_t_sign v_t_word v_t_newSongs v_t_newPeople v_t_newForgetsAt v_t_newFillsAt v_t_top v_t_firstValue v_t_lastValue v_t_waiting v_t_depth v_t_acts v_t_isWinter v_t_learntNow v_t_forgottenNow v_t_heardMany v_t_its0 v_t_hasImage v_t_imageActs v_t_imageHeard 1 o10_0 o10_1 hz10) (cwV 1 hts gX12_isOneOf_X12_wrong rfl rfl rfl (by decide +kernel) ⟨Nat.le_of_ble_eq_true rfl, Nat.le_of_ble_eq_true rfl⟩) (gs_preV (ci := 12) hk hP hD (is := [0]) rfl rfl rfl rfl) rfl rfl hl.1 rfl (lv_room (Nat.le_of_ble_eq_true rfl)) dX12_isOneOf_19 ⟨Nat.zero_le _, Nat.zero_le _⟩) hP hD hS [0] rfl rfl rfl rfl (fun H locs hP hD hS => ?_)
      refine lv_goto (tgt := 54) hx hb dX12_isOneOf_22 (by decide) ?_
      exact t_X12_isOneOf_54 X0 hk  hret  (h := h) _ _ _ hP hD hS (lv_sub hl [0] rfl)
  · replace h := gs_ift c2 h
    refine lv_iconst (v := 0) hx hb dX12_isOneOf_7 (by decide) ?_
    have h := Option.some.inj h
    obtain ⟨w0, h⟩ := Prod.mk.inj h
    obtain ⟨w1, h⟩ := Prod.mk.inj h
    subst h
    subst w0
    subst w1
    exact hret _ _ _ _ hP hS rfl dX12_isOneOf_8

theorem dX12_puts_0 : decode cX12_puts 0 = .ok (.aload_n 0, 1) := by decide +kernel
theorem dX12_puts_1 : decode cX12_puts 1 = .ok (.getfield 50, 3) := by decide +kernel
theorem dX12_puts_4 : decode cX12_puts 4 = .ok (.aload_n 0, 1) := by decide +kernel
theorem dX12_puts_5 : decode cX12_puts 5 = .ok (.getfield 171, 3) := by decide +kernel
theorem dX12_puts_8 : decode cX12_puts 8 = .ok (.iload_n 1, 1) := by decide +kernel
theorem dX12_puts_9 : decode cX12_puts 9 = .ok (.iastore, 1) := by decide +kernel
theorem dX12_puts_10 : decode cX12_puts 10 = .ok (.aload_n 0, 1) := by decide +kernel
theorem dX12_puts_11 : decode cX12_puts 11 = .ok (.dup, 1) := by decide +kernel
theorem dX12_puts_12 : decode cX12_puts 12 = .ok (.getfield 171, 3) := by decide +kernel
theorem dX12_puts_15 : decode cX12_puts 15 = .ok (.iconst 1, 1) := by decide +kernel
theorem dX12_puts_16 : decode cX12_puts 16 = .ok (.iadd, 1) := by decide +kernel
theorem dX12_puts_17 : decode cX12_puts 17 = .ok (.putfield 171, 3) := by decide +kernel
theorem dX12_puts_20 : decode cX12_puts 20 = .ok (.return_, 1) := by decide +kernel
abbrev w_X12_puts (E : gs_E) (a_t a_t_readCode a_t_songLong a_t_firstNote a_t_wit a_t_code a_t_tape a_t_refused a_t_newSongLong a_t_newFirstNote a_t_newWit a_t_newRow a_t_waits a_t_tested a_t_isTold a_t_rows a_t_ahead a_t_told a_t_pile a_t_common a_t_mostOf a_t_likes a_t_heard a_t_soon a_t_soonAll a_t_imageRow a_t_imageAhead a_t_imageHears : Nat) (v_t_thrown : Int32) (v_t_songs : Int32) (v_t_people : Int32) (v_t_forgetsAt : Int32) (v_t_fillsAt : Int32) (v_t_taped : Int32) (v_t_faultKind : Int32) (v_t_faultPlace : Int32) (v_t_long1 : Int32) (v_t_next0 : Int32) (v_t_sort : Int32) (v_t_place : Int32) (v_t_long0 : Int32) (v_t_value : Int32) (v_t_sign : Int32) (v_t_word : Int64) (v_t_newSongs : Int32) (v_t_newPeople : Int32) (v_t_newForgetsAt : Int32) (v_t_newFillsAt : Int32) (v_t_top : Int32) (v_t_firstValue : Int32) (v_t_lastValue : Int32) (v_t_waiting : Int32) (v_t_depth : Int32) (v_t_acts : Int32) (v_t_isWinter : Int32) (v_t_learntNow : Int32) (v_t_forgottenNow : Int32) (v_t_heardMany : Int32) (v_t_its0 : Int32) (v_t_hasImage : Int32) (v_t_imageActs : Int32) (v_t_imageHeard : Int32) (r_t_readCode : Nat → Int32) : va_W := [(a_t, .inr (12, [.int v_t_thrown, .int v_t_songs, .int v_t_people, .int v_t_forgetsAt, .int v_t_fillsAt, .ref a_t_songLong, .ref a_t_firstNote, .ref a_t_wit, .ref a_t_code, .ref a_t_tape, .int v_t_taped, .int v_t_faultKind, .int v_t_faultPlace, .ref a_t_refused, .int v_t_long1, .int v_t_next0, .int v_t_sort, .int v_t_place, .int v_t_long0, .int v_t_value, .int v_t_sign, .long v_t_word, .int v_t_newSongs, .int v_t_newPeople, .int v_t_newForgetsAt, .int v_t_newFillsAt, .int v_t_top, .int v_t_firstValue, .int v_t_lastValue, .int v_t_waiting, .int v_t_depth, .ref a_t_newSongLong, .ref a_t_newFirstNote, .ref a_t_newWit, .ref a_t_newRow, .ref a_t_readCode, .ref a_t_waits, .ref a_t_tested, .ref a_t_isTold, .ref a_t_rows, .ref a_t_ahead, .int v_t_acts, .ref a_t_told, .ref a_t_pile, .int v_t_isWinter, .int v_t_learntNow, .int v_t_forgottenNow, .ref a_t_common, .ref a_t_mostOf, .ref a_t_likes, .int v_t_heardMany, .ref a_t_heard, .ref a_t_soon, .ref a_t_soonAll, .int v_t_its0, .int v_t_hasImage, .int v_t_imageActs, .int v_t_imageHeard, .ref a_t_imageRow, .ref a_t_imageAhead, .ref a_t_imageHears])), (a_t_readCode, .inl (E.2.1, 1400, .inl r_t_readCode))]
abbrev rm_X12_puts : Room := { frames := 0, cells := 0, slots := 0, locals := 0 }
def f_X12_puts (x1 : Int32) (v_t_top : Int32) (r_t_readCode : Nat → Int32) : Option (Int32 × (Nat → Int32)) :=
  gs_gd (gs_in v_t_top 1400) <|
  some (v_t_top + 1, upd r_t_readCode v_t_top.toNatClampNeg x1)
set_option maxHeartbeats 4000000 in
set_option maxRecDepth 100000 in
theorem c_X12_puts (l : Launch) (E : gs_E) (a_t a_t_readCode a_t_songLong a_t_firstNote a_t_wit a_t_code a_t_tape a_t_refused a_t_newSongLong a_t_newFirstNote a_t_newWit a_t_newRow a_t_waits a_t_tested a_t_isTold a_t_rows a_t_ahead a_t_told a_t_pile a_t_common a_t_mostOf a_t_likes a_t_heard a_t_soon a_t_soonAll a_t_imageRow a_t_imageAhead a_t_imageHears : Nat) (v_t_thrown : Int32) (v_t_songs : Int32) (v_t_people : Int32) (v_t_forgetsAt : Int32) (v_t_fillsAt : Int32) (v_t_taped : Int32) (v_t_faultKind : Int32) (v_t_faultPlace : Int32) (v_t_long1 : Int32) (v_t_next0 : Int32) (v_t_sort : Int32) (v_t_place : Int32) (v_t_long0 : Int32) (v_t_value : Int32) (v_t_sign : Int32) (v_t_word : Int64) (v_t_newSongs : Int32) (v_t_newPeople : Int32) (v_t_newForgetsAt : Int32) (v_t_newFillsAt : Int32) (v_t_top : Int32) (v_t_firstValue : Int32) (v_t_lastValue : Int32) (v_t_waiting : Int32) (v_t_depth : Int32) (v_t_acts : Int32) (v_t_isWinter : Int32) (v_t_learntNow : Int32) (v_t_forgottenNow : Int32) (v_t_heardMany : Int32) (v_t_its0 : Int32) (v_t_hasImage : Int32) (v_t_imageActs : Int32) (v_t_imageHeard : Int32) (r_t_readCode : Nat → Int32) (x1 : Int32) (o_t_top : Int32) (o_t_readCode : Nat → Int32) (h : f_X12_puts x1 v_t_top r_t_readCode = some (o_t_top, o_t_readCode)) : gs_MW l yX12_puts wsX12_puts rm_X12_puts [.ref a_t, .int x1] E (w_X12_puts E a_t a_t_readCode a_t_songLong a_t_firstNote a_t_wit a_t_code a_t_tape a_t_refused a_t_newSongLong a_t_newFirstNote a_t_newWit a_t_newRow a_t_waits a_t_tested a_t_isTold a_t_rows a_t_ahead a_t_told a_t_pile a_t_common a_t_mostOf a_t_likes a_t_heard a_t_soon a_t_soonAll a_t_imageRow a_t_imageAhead a_t_imageHears v_t_thrown v_t_songs v_t_people v_t_forgetsAt v_t_fillsAt v_t_taped v_t_faultKind v_t_faultPlace v_t_long1 v_t_next0 v_t_sort v_t_place v_t_long0 v_t_value v_t_sign v_t_word v_t_newSongs v_t_newPeople v_t_newForgetsAt v_t_newFillsAt v_t_top v_t_firstValue v_t_lastValue v_t_waiting v_t_depth v_t_acts v_t_isWinter v_t_learntNow v_t_forgottenNow v_t_heardMany v_t_its0 v_t_hasImage v_t_imageActs v_t_imageHeard r_t_readCode) (w_X12_puts E a_t a_t_readCode a_t_songLong a_t_firstNote a_t_wit a_t_code a_t_tape a_t_refused a_t_newSongLong a_t_newFirstNote a_t_newWit a_t_newRow a_t_waits a_t_tested a_t_isTold a_t_rows a_t_ahead a_t_told a_t_pile a_t_common a_t_mostOf a_t_likes a_t_heard a_t_soon a_t_soonAll a_t_imageRow a_t_imageAhead a_t_imageHears v_t_thrown v_t_songs v_t_people v_t_forgetsAt v_t_fillsAt v_t_taped v_t_faultKind v_t_faultPlace v_t_long1 v_t_next0 v_t_sort v_t_place v_t_long0 v_t_value v_t_sign v_t_word v_t_newSongs v_t_newPeople v_t_newForgetsAt v_t_newFillsAt o_t_top v_t_firstValue v_t_lastValue v_t_waiting v_t_depth v_t_acts v_t_isWinter v_t_learntNow v_t_forgottenNow v_t_heardMany v_t_its0 v_t_hasImage v_t_imageActs v_t_imageHeard o_t_readCode) none := by
  refine Met.ofW (cc := cX12_puts) (maxL := 2) (ret := none) (by decide) rfl ?_
  intro p e s m args below meth c s₁ B hml hv
  obtain ⟨rfl, hP, hk, hD0⟩ := hv
  have X0 : gs_X wsX12_puts cX12_puts RX12 2 none p s m ([.ref a_t, .int x1] : List Value).toArray meth c := gs_X.of B hml
  obtain ⟨hx, hb, -, hown, hts, hr, hlk⟩ := id X0
  have hD := (gs_D_self hD0)
  generalize hAe : gs_w (w_X12_puts E a_t a_t_readCode a_t_songLong a_t_firstNote a_t_wit a_t_code a_t_tape a_t_refused a_t_newSongLong a_t_newFirstNote a_t_newWit a_t_newRow a_t_waits a_t_tested a_t_isTold a_t_rows a_t_ahead a_t_told a_t_pile a_t_common a_t_mostOf a_t_likes a_t_heard a_t_soon a_t_soonAll a_t_imageRow a_t_imageAhead a_t_imageHears v_t_thrown v_t_songs v_t_people v_t_forgetsAt v_t_fillsAt v_t_taped v_t_faultKind v_t_faultPlace v_t_long1 v_t_next0 v_t_sort v_t_place v_t_long0 v_t_value v_t_sign v_t_word v_t_newSongs v_t_newPeople v_t_newForgetsAt v_t_newFillsAt v_t_top v_t_firstValue v_t_lastValue v_t_waiting v_t_depth v_t_acts v_t_isWinter v_t_learntNow v_t_forgottenNow v_t_heardMany v_t_its0 v_t_hasImage v_t_imageActs v_t_imageHeard r_t_readCode) = A at hD ⊢
  have hS : va_S A s.heap s.heap [] := va_S.rf
  have hret : ∀ (H : Heap) (locs : List Loc) (pc : Nat) (ls : Array Slot), va_P E.1 vwCl (w_X12_puts E a_t a_t_readCode a_t_songLong a_t_firstNote a_t_wit a_t_code a_t_tape a_t_refused a_t_newSongLong a_t_newFirstNote a_t_newWit a_t_newRow a_t_waits a_t_tested a_t_isTold a_t_rows a_t_ahead a_t_told a_t_pile a_t_common a_t_mostOf a_t_likes a_t_heard a_t_soon a_t_soonAll a_t_imageRow a_t_imageAhead a_t_imageHears v_t_thrown v_t_songs v_t_people v_t_forgetsAt v_t_fillsAt v_t_taped v_t_faultKind v_t_faultPlace v_t_long1 v_t_next0 v_t_sort v_t_place v_t_long0 v_t_value v_t_sign v_t_word v_t_newSongs v_t_newPeople v_t_newForgetsAt v_t_newFillsAt o_t_top v_t_firstValue v_t_lastValue v_t_waiting v_t_depth v_t_acts v_t_isWinter v_t_learntNow v_t_forgottenNow v_t_heardMany v_t_its0 v_t_hasImage v_t_imageActs v_t_imageHeard o_t_readCode) H → va_S A s.heap H locs → decode cX12_puts pc = .ok (.return_, 1) → W p l e rm_X12_puts s m ([.ref a_t, .int x1] : List Value).toArray below meth c H locs 0 0 (MQ below (gs_QWA E A (w_X12_puts E a_t a_t_readCode a_t_songLong a_t_firstNote a_t_wit a_t_code a_t_tape a_t_refused a_t_newSongLong a_t_newFirstNote a_t_newWit a_t_newRow a_t_waits a_t_tested a_t_isTold a_t_rows a_t_ahead a_t_told a_t_pile a_t_common a_t_mostOf a_t_likes a_t_heard a_t_soon a_t_soonAll a_t_imageRow a_t_imageAhead a_t_imageHears v_t_thrown v_t_songs v_t_people v_t_forgetsAt v_t_fillsAt v_t_taped v_t_faultKind v_t_faultPlace v_t_long1 v_t_next0 v_t_sort v_t_place v_t_long0 v_t_value v_t_sign v_t_word v_t_newSongs v_t_newPeople v_t_newForgetsAt v_t_newFillsAt o_t_top v_t_firstValue v_t_lastValue v_t_waiting v_t_depth v_t_acts v_t_isWinter v_t_learntNow v_t_forgottenNow v_t_heardMany v_t_its0 v_t_hasImage v_t_imageActs v_t_imageHeard o_t_readCode) none) ([.ref a_t, .int x1] : List Value).toArray s 0 0 A) (F0 m pc ls []) := fun H locs pc ls hP hS hd => W.vret hx hb hr (fun t ht hW => ⟨rfl, by rw [ht]; exact hP, hS.F ht⟩) hS.2.2 hd
  have hl := lv_entry ([.ref a_t, .int x1]) (n := 2) (Nat.le_of_ble_eq_true rfl)
  rw [lg_entry_eq]
  generalize (lg_sl ([.ref a_t, .int x1]) ++ List.replicate (2 - (lg_sl ([.ref a_t, .int x1])).length) Slot.unset).toArray = ls at hl ⊢
  have hl : lv_has ls 2 [(0, .ref a_t), (1, .int x1)] := hl
  unfold f_X12_puts at h
  refine lv_aload_n hx hb dX12_puts_0 rfl (lv_at hl 0 rfl) ?_
  refine va_get (D := E.1) (ci := 12) (v := .ref a_t_readCode) (C := RX12) (T := TX12) (N := 61) hx hb hts (fun _ h => (List.mem_cons_of_mem _ (List.mem_append_right _ h))) hown hk.1 hP 0 rfl rfl 35 (by decide) (hts (.fieldLink RX12 50 "GapSongsModel" "readCode" "[I") (List.mem_cons_of_mem _ (List.mem_append_left _ (List.mem_of_getElem? (i := 0) rfl)))) (fun _ h9 => h9) rfl dX12_puts_1 ?_
  refine lv_aload_n hx hb dX12_puts_4 rfl (lv_at hl 0 rfl) ?_
  refine va_get (D := E.1) (ci := 12) (v := .int v_t_top) (C := RX12) (T := TX12) (N := 61) hx hb hts (fun _ h => (List.mem_cons_of_mem _ (List.mem_append_right _ h))) hown hk.1 hP 0 rfl rfl 26 (by decide) (hts (.fieldLink RX12 171 "GapSongsModel" "top" "I") (List.mem_cons_of_mem _ (List.mem_append_left _ (List.mem_of_getElem? (i := 1) rfl)))) (fun _ h9 => h9) rfl dX12_puts_5 ?_
  refine lv_iload_n hx hb dX12_puts_8 rfl (lv_at hl 1 rfl) ?_
  obtain ⟨g1, h⟩ := gs_gd_e h
  refine va_iast hx hb hk.1 hP hD hS 1 0 rfl rfl (gs_in_e g1) dX12_puts_9 (fun H locs hP hD hS => ?_)
  have hP : va_P E.1 vwCl (w_X12_puts E a_t a_t_readCode a_t_songLong a_t_firstNote a_t_wit a_t_code a_t_tape a_t_refused a_t_newSongLong a_t_newFirstNote a_t_newWit a_t_newRow a_t_waits a_t_tested a_t_isTold a_t_rows a_t_ahead a_t_told a_t_pile a_t_common a_t_mostOf a_t_likes a_t_heard a_t_soon a_t_soonAll a_t_imageRow a_t_imageAhead a_t_imageHears v_t_thrown v_t_songs v_t_people v_t_forgetsAt v_t_fillsAt v_t_taped v_t_faultKind v_t_faultPlace v_t_long1 v_t_next0 v_t_sort v_t_place v_t_long0 v_t_value v_t_sign v_t_word v_t_newSongs v_t_newPeople v_t_newForgetsAt v_t_newFillsAt v_t_top v_t_firstValue v_t_lastValue v_t_waiting v_t_depth v_t_acts v_t_isWinter v_t_learntNow v_t_forgottenNow v_t_heardMany v_t_its0 v_t_hasImage v_t_imageActs v_t_imageHeard (upd r_t_readCode v_t_top.toNatClampNeg x1)) H := hP
  have hD : va_D A (w_X12_puts E a_t a_t_readCode a_t_songLong a_t_firstNote a_t_wit a_t_code a_t_tape a_t_refused a_t_newSongLong a_t_newFirstNote a_t_newWit a_t_newRow a_t_waits a_t_tested a_t_isTold a_t_rows a_t_ahead a_t_told a_t_pile a_t_common a_t_mostOf a_t_likes a_t_heard a_t_soon a_t_soonAll a_t_imageRow a_t_imageAhead a_t_imageHears v_t_thrown v_t_songs v_t_people v_t_forgetsAt v_t_fillsAt v_t_taped v_t_faultKind v_t_faultPlace v_t_long1 v_t_next0 v_t_sort v_t_place v_t_long0 v_t_value v_t_sign v_t_word v_t_newSongs v_t_newPeople v_t_newForgetsAt v_t_newFillsAt v_t_top v_t_firstValue v_t_lastValue v_t_waiting v_t_depth v_t_acts v_t_isWinter v_t_learntNow v_t_forgottenNow v_t_heardMany v_t_its0 v_t_hasImage v_t_imageActs v_t_imageHeard (upd r_t_readCode v_t_top.toNatClampNeg x1)) := hD
  refine lv_aload_n hx hb dX12_puts_10 rfl (lv_at hl 0 rfl) ?_
  refine lv_dup hx hb dX12_puts_11 rfl ?_
  refine va_get (D := E.1) (ci := 12) (v := .int v_t_top) (C := RX12) (T := TX12) (N := 61) hx hb hts (fun _ h => (List.mem_cons_of_mem _ (List.mem_append_right _ h))) hown hk.1 hP 0 rfl rfl 26 (by decide) (hts (.fieldLink RX12 171 "GapSongsModel" "top" "I") (List.mem_cons_of_mem _ (List.mem_append_left _ (List.mem_of_getElem? (i := 1) rfl)))) (fun _ h9 => h9) rfl dX12_puts_12 ?_
  refine lv_iconst (v := 1) hx hb dX12_puts_15 (by decide) ?_
  refine lv_iadd hx hb dX12_puts_16 ?_
  refine va_put (D := E.1) (ci := 12) (v := .int (v_t_top + 1)) (ty := .int) (C := RX12) (T := TX12) (N := 61) hx hb hts (fun _ h => (List.mem_cons_of_mem _ (List.mem_append_right _ h))) tyX12 tyX12_ok nmX12 hown hk.1 hP hD hS 0 rfl rfl 26 (by decide) (hts (.fieldLink RX12 171 "GapSongsModel" "top" "I") (List.mem_cons_of_mem _ (List.mem_append_left _ (List.mem_of_getElem? (i := 1) rfl)))) (fun _ h9 => h9) rfl (by decide +kernel) rfl rfl (Nat.le_of_ble_eq_true rfl) dX12_puts_17 (fun H locs hP hD hS => ?_)
  have hP : va_P E.1 vwCl (w_X12_puts E a_t a_t_readCode a_t_songLong a_t_firstNote a_t_wit a_t_code a_t_tape a_t_refused a_t_newSongLong a_t_newFirstNote a_t_newWit a_t_newRow a_t_waits a_t_tested a_t_isTold a_t_rows a_t_ahead a_t_told a_t_pile a_t_common a_t_mostOf a_t_likes a_t_heard a_t_soon a_t_soonAll a_t_imageRow a_t_imageAhead a_t_imageHears v_t_thrown v_t_songs v_t_people v_t_forgetsAt v_t_fillsAt v_t_taped v_t_faultKind v_t_faultPlace v_t_long1 v_t_next0 v_t_sort v_t_place v_t_long0 v_t_value v_t_sign v_t_word v_t_newSongs v_t_newPeople v_t_newForgetsAt v_t_newFillsAt (v_t_top + 1) v_t_firstValue v_t_lastValue v_t_waiting v_t_depth v_t_acts v_t_isWinter v_t_learntNow v_t_forgottenNow v_t_heardMany v_t_its0 v_t_hasImage v_t_imageActs v_t_imageHeard (upd r_t_readCode v_t_top.toNatClampNeg x1)) H := hP
  have hD : va_D A (w_X12_puts E a_t a_t_readCode a_t_songLong a_t_firstNote a_t_wit a_t_code a_t_tape a_t_refused a_t_newSongLong a_t_newFirstNote a_t_newWit a_t_newRow a_t_waits a_t_tested a_t_isTold a_t_rows a_t_ahead a_t_told a_t_pile a_t_common a_t_mostOf a_t_likes a_t_heard a_t_soon a_t_soonAll a_t_imageRow a_t_imageAhead a_t_imageHears v_t_thrown v_t_songs v_t_people v_t_forgetsAt v_t_fillsAt v_t_taped v_t_faultKind v_t_faultPlace v_t_long1 v_t_next0 v_t_sort v_t_place v_t_long0 v_t_value v_t_sign v_t_word v_t_newSongs v_t_newPeople v_t_newForgetsAt v_t_newFillsAt (v_t_top + 1) v_t_firstValue v_t_lastValue v_t_waiting v_t_depth v_t_acts v_t_isWinter v_t_learntNow v_t_forgottenNow v_t_heardMany v_t_its0 v_t_hasImage v_t_imageActs v_t_imageHeard (upd r_t_readCode v_t_top.toNatClampNeg x1)) := hD
  have h := Option.some.inj h
  obtain ⟨w0, h⟩ := Prod.mk.inj h
  subst h
  subst w0
  exact hret _ _ _ _ hP hS dX12_puts_20

theorem dX12_isOpen_0 : decode cX12_isOpen 0 = .ok (.iload_n 0, 1) := by decide +kernel
theorem dX12_isOpen_1 : decode cX12_isOpen 1 = .ok (.bipush 14, 2) := by decide +kernel
theorem dX12_isOpen_3 : decode cX12_isOpen 3 = .ok (.if_icmp .lt 7, 3) := by decide +kernel
theorem dX12_isOpen_6 : decode cX12_isOpen 6 = .ok (.iconst 1, 1) := by decide +kernel
theorem dX12_isOpen_7 : decode cX12_isOpen 7 = .ok (.goto 4, 3) := by decide +kernel
theorem dX12_isOpen_10 : decode cX12_isOpen 10 = .ok (.iconst 0, 1) := by decide +kernel
theorem dX12_isOpen_11 : decode cX12_isOpen 11 = .ok (.ireturn, 1) := by decide +kernel
abbrev w_X12_isOpen (E : gs_E) : va_W := []
abbrev rm_X12_isOpen : Room := { frames := 0, cells := 0, slots := 0, locals := 0 }
def f_X12_isOpen (x0 : Int32) : Option (Int32) :=
  if x0 < 14 then
    some 0
  else
    some 1
set_option maxHeartbeats 4000000 in
set_option maxRecDepth 100000 in
theorem c_X12_isOpen (l : Launch) (E : gs_E) (x0 : Int32) (rr : Int32) (h : f_X12_isOpen x0 = some rr) : gs_MR l yX12_isOpen wsX12_isOpen rm_X12_isOpen [.int x0] E (w_X12_isOpen E ) (some (.int rr)) := by
  refine Met.ofW (cc := cX12_isOpen) (maxL := 1) (ret := (some .boolean)) (by decide) rfl ?_
  intro p e s m args below meth c s₁ B hml hv
  obtain ⟨rfl, hP, hk, hD0⟩ := hv
  have X0 : gs_X wsX12_isOpen cX12_isOpen RX12 1 (some .boolean) p s m ([.int x0] : List Value).toArray meth c := gs_X.of B hml
  obtain ⟨hx, hb, -, hown, hts, hr, hlk⟩ := id X0
  have hD := hD0
  have hret : ∀ (pc : Nat) (ls : Array Slot), narrow .boolean (.int rr) = .int rr → decode cX12_isOpen pc = .ok (.ireturn, 1) → W p l e rm_X12_isOpen s m ([.int x0] : List Value).toArray below meth c s.heap [] 0 0 (MQ below (gs_QR (some (.int rr))) ([.int x0] : List Value).toArray s 0 0 (fun _ => False)) (F0 m pc ls [.int rr]) := fun pc ls hnar hd => W.zret hx hb hr hnar (fun t ht hW => ⟨rfl, ht⟩) (fun q hq => by cases hq) hd
  have hl := lv_entry ([.int x0]) (n := 1) (Nat.le_of_ble_eq_true rfl)
  rw [lg_entry_eq]
  generalize (lg_sl ([.int x0]) ++ List.replicate (1 - (lg_sl ([.int x0])).length) Slot.unset).toArray = ls at hl ⊢
  have hl : lv_has ls 1 [(0, .int x0)] := hl
  unfold f_X12_isOpen at h
  refine lv_iload_n hx hb dX12_isOpen_0 rfl (lv_at hl 0 rfl) ?_
  refine lv_bipush (v := 14) hx hb dX12_isOpen_1 (by decide) ?_
  refine lv_icmp_lt (tgt := 10) hx hb dX12_isOpen_3 (by decide) (fun c1 => ?_) (fun c1 => ?_)
  · replace h := gs_ift c1 h
    refine lv_iconst (v := 0) hx hb dX12_isOpen_10 (by decide) ?_
    have h := Option.some.inj h
    subst h
    exact hret _ _ rfl dX12_isOpen_11
  · replace h := gs_iff c1 h
    refine lv_iconst (v := 1) hx hb dX12_isOpen_6 (by decide) ?_
    refine lv_goto (tgt := 11) hx hb dX12_isOpen_7 (by decide) ?_
    have h := Option.some.inj h
    subst h
    exact hret _ _ rfl dX12_isOpen_11

theorem dX12_strength_0 : decode cX12_strength 0 = .ok (.iload_n 0, 1) := by decide +kernel
theorem dX12_strength_1 : decode cX12_strength 1 = .ok (.iconst 5, 1) := by decide +kernel
theorem dX12_strength_2 : decode cX12_strength 2 = .ok (.if_icmp .ne 7, 3) := by decide +kernel
theorem dX12_strength_5 : decode cX12_strength 5 = .ok (.iconst 1, 1) := by decide +kernel
theorem dX12_strength_6 : decode cX12_strength 6 = .ok (.goto 55, 3) := by decide +kernel
theorem dX12_strength_9 : decode cX12_strength 9 = .ok (.iload_n 0, 1) := by decide +kernel
theorem dX12_strength_10 : decode cX12_strength 10 = .ok (.iconst 4, 1) := by decide +kernel
theorem dX12_strength_11 : decode cX12_strength 11 = .ok (.if_icmp .ne 7, 3) := by decide +kernel
theorem dX12_strength_14 : decode cX12_strength 14 = .ok (.iconst 2, 1) := by decide +kernel
theorem dX12_strength_15 : decode cX12_strength 15 = .ok (.goto 46, 3) := by decide +kernel
theorem dX12_strength_18 : decode cX12_strength 18 = .ok (.iload_n 0, 1) := by decide +kernel
theorem dX12_strength_19 : decode cX12_strength 19 = .ok (.iconst 3, 1) := by decide +kernel
theorem dX12_strength_20 : decode cX12_strength 20 = .ok (.if_icmp .ne 7, 3) := by decide +kernel
theorem dX12_strength_23 : decode cX12_strength 23 = .ok (.iconst 3, 1) := by decide +kernel
theorem dX12_strength_24 : decode cX12_strength 24 = .ok (.goto 37, 3) := by decide +kernel
theorem dX12_strength_27 : decode cX12_strength 27 = .ok (.iload_n 0, 1) := by decide +kernel
theorem dX12_strength_28 : decode cX12_strength 28 = .ok (.bipush 6, 2) := by decide +kernel
theorem dX12_strength_30 : decode cX12_strength 30 = .ok (.if_icmp .eq 9, 3) := by decide +kernel
theorem dX12_strength_33 : decode cX12_strength 33 = .ok (.iload_n 0, 1) := by decide +kernel
theorem dX12_strength_34 : decode cX12_strength 34 = .ok (.bipush 7, 2) := by decide +kernel
theorem dX12_strength_36 : decode cX12_strength 36 = .ok (.if_icmp .ne 7, 3) := by decide +kernel
theorem dX12_strength_39 : decode cX12_strength 39 = .ok (.iconst 4, 1) := by decide +kernel
theorem dX12_strength_40 : decode cX12_strength 40 = .ok (.goto 21, 3) := by decide +kernel
theorem dX12_strength_43 : decode cX12_strength 43 = .ok (.iload_n 0, 1) := by decide +kernel
theorem dX12_strength_44 : decode cX12_strength 44 = .ok (.bipush 8, 2) := by decide +kernel
theorem dX12_strength_46 : decode cX12_strength 46 = .ok (.if_icmp .eq 9, 3) := by decide +kernel
theorem dX12_strength_49 : decode cX12_strength 49 = .ok (.iload_n 0, 1) := by decide +kernel
theorem dX12_strength_50 : decode cX12_strength 50 = .ok (.bipush 9, 2) := by decide +kernel
theorem dX12_strength_52 : decode cX12_strength 52 = .ok (.if_icmp .ne 7, 3) := by decide +kernel
theorem dX12_strength_55 : decode cX12_strength 55 = .ok (.iconst 5, 1) := by decide +kernel
theorem dX12_strength_56 : decode cX12_strength 56 = .ok (.goto 5, 3) := by decide +kernel
theorem dX12_strength_59 : decode cX12_strength 59 = .ok (.bipush 6, 2) := by decide +kernel
theorem dX12_strength_61 : decode cX12_strength 61 = .ok (.ireturn, 1) := by decide +kernel
abbrev w_X12_strength (E : gs_E) : va_W := []
abbrev rm_X12_strength : Room := { frames := 0, cells := 0, slots := 0, locals := 0 }
def f_X12_strength (x0 : Int32) : Option (Int32) :=
  if x0 = 5 then
    some 1
  else
    if x0 = 4 then
      some 2
    else
      if x0 = 3 then
        some 3
      else
        if x0 = 6 then
          some 4
        else
          if x0 = 7 then
            some 4
          else
            if x0 = 8 then
              some 5
            else
              if x0 = 9 then
                some 5
              else
                some 6
set_option maxHeartbeats 4000000 in
set_option maxRecDepth 100000 in
theorem c_X12_strength (l : Launch) (E : gs_E) (x0 : Int32) (rr : Int32) (h : f_X12_strength x0 = some rr) : gs_MR l yX12_strength wsX12_strength rm_X12_strength [.int x0] E (w_X12_strength E ) (some (.int rr)) := by
  refine Met.ofW (cc := cX12_strength) (maxL := 1) (ret := (some .int)) (by decide) rfl ?_
  intro p e s m args below meth c s₁ B hml hv
  obtain ⟨rfl, hP, hk, hD0⟩ := hv
  have X0 : gs_X wsX12_strength cX12_strength RX12 1 (some .int) p s m ([.int x0] : List Value).toArray meth c := gs_X.of B hml
  obtain ⟨hx, hb, -, hown, hts, hr, hlk⟩ := id X0
  have hD := hD0
  have hret : ∀ (pc : Nat) (ls : Array Slot), decode cX12_strength pc = .ok (.ireturn, 1) → W p l e rm_X12_strength s m ([.int x0] : List Value).toArray below meth c s.heap [] 0 0 (MQ below (gs_QR (some (.int rr))) ([.int x0] : List Value).toArray s 0 0 (fun _ => False)) (F0 m pc ls [.int rr]) := fun pc ls hd => W.iret hx hb hr (fun t ht hW => ⟨rfl, ht⟩) (fun q hq => by cases hq) hd
  have hl := lv_entry ([.int x0]) (n := 1) (Nat.le_of_ble_eq_true rfl)
  rw [lg_entry_eq]
  generalize (lg_sl ([.int x0]) ++ List.replicate (1 - (lg_sl ([.int x0])).length) Slot.unset).toArray = ls at hl ⊢
  have hl : lv_has ls 1 [(0, .int x0)] := hl
  unfold f_X12_strength at h
  refine lv_iload_n hx hb dX12_strength_0 rfl (lv_at hl 0 rfl) ?_
  refine lv_iconst (v := 5) hx hb dX12_strength_1 (by decide) ?_
  refine lv_icmp_ne (tgt := 9) hx hb dX12_strength_2 (by decide) (fun c1 => ?_) (fun c1 => ?_)
  · replace h := gs_iff c1 h
    refine lv_iload_n hx hb dX12_strength_9 rfl (lv_at hl 0 rfl) ?_
    refine lv_iconst (v := 4) hx hb dX12_strength_10 (by decide) ?_
    refine lv_icmp_ne (tgt := 18) hx hb dX12_strength_11 (by decide) (fun c2 => ?_) (fun c2 => ?_)
    · replace h := gs_iff c2 h
      refine lv_iload_n hx hb dX12_strength_18 rfl (lv_at hl 0 rfl) ?_
      refine lv_iconst (v := 3) hx hb dX12_strength_19 (by decide) ?_
      refine lv_icmp_ne (tgt := 27) hx hb dX12_strength_20 (by decide) (fun c3 => ?_) (fun c3 => ?_)
      · replace h := gs_iff c3 h
        refine lv_iload_n hx hb dX12_strength_27 rfl (lv_at hl 0 rfl) ?_
        refine lv_bipush (v := 6) hx hb dX12_strength_28 (by decide) ?_
        refine lv_icmp_eq (tgt := 39) hx hb dX12_strength_30 (by decide) (fun c4 => ?_) (fun c4 => ?_)
        · replace h := gs_ift c4 h
          refine lv_iconst (v := 4) hx hb dX12_strength_39 (by decide) ?_
          refine lv_goto (tgt := 61) hx hb dX12_strength_40 (by decide) ?_
          have h := Option.some.inj h
          subst h
          exact hret _ _ dX12_strength_61
        · replace h := gs_iff c4 h
          refine lv_iload_n hx hb dX12_strength_33 rfl (lv_at hl 0 rfl) ?_
          refine lv_bipush (v := 7) hx hb dX12_strength_34 (by decide) ?_
          refine lv_icmp_ne (tgt := 43) hx hb dX12_strength_36 (by decide) (fun c5 => ?_) (fun c5 => ?_)
          · replace h := gs_iff c5 h
            refine lv_iload_n hx hb dX12_strength_43 rfl (lv_at hl 0 rfl) ?_
            refine lv_bipush (v := 8) hx hb dX12_strength_44 (by decide) ?_
            refine lv_icmp_eq (tgt := 55) hx hb dX12_strength_46 (by decide) (fun c6 => ?_) (fun c6 => ?_)
            · replace h := gs_ift c6 h
              refine lv_iconst (v := 5) hx hb dX12_strength_55 (by decide) ?_
              refine lv_goto (tgt := 61) hx hb dX12_strength_56 (by decide) ?_
              have h := Option.some.inj h
              subst h
              exact hret _ _ dX12_strength_61
            · replace h := gs_iff c6 h
              refine lv_iload_n hx hb dX12_strength_49 rfl (lv_at hl 0 rfl) ?_
              refine lv_bipush (v := 9) hx hb dX12_strength_50 (by decide) ?_
              refine lv_icmp_ne (tgt := 59) hx hb dX12_strength_52 (by decide) (fun c7 => ?_) (fun c7 => ?_)
              · replace h := gs_iff c7 h
                refine lv_bipush (v := 6) hx hb dX12_strength_59 (by decide) ?_
                have h := Option.some.inj h
                subst h
                exact hret _ _ dX12_strength_61
              · replace h := gs_ift c7 h
                refine lv_iconst (v := 5) hx hb dX12_strength_55 (by decide) ?_
                refine lv_goto (tgt := 61) hx hb dX12_strength_56 (by decide) ?_
                have h := Option.some.inj h
                subst h
                exact hret _ _ dX12_strength_61
          · replace h := gs_ift c5 h
            refine lv_iconst (v := 4) hx hb dX12_strength_39 (by decide) ?_
            refine lv_goto (tgt := 61) hx hb dX12_strength_40 (by decide) ?_
            have h := Option.some.inj h
            subst h
            exact hret _ _ dX12_strength_61
      · replace h := gs_ift c3 h
        refine lv_iconst (v := 3) hx hb dX12_strength_23 (by decide) ?_
        refine lv_goto (tgt := 61) hx hb dX12_strength_24 (by decide) ?_
        have h := Option.some.inj h
        subst h
        exact hret _ _ dX12_strength_61
    · replace h := gs_ift c2 h
      refine lv_iconst (v := 2) hx hb dX12_strength_14 (by decide) ?_
      refine lv_goto (tgt := 61) hx hb dX12_strength_15 (by decide) ?_
      have h := Option.some.inj h
      subst h
      exact hret _ _ dX12_strength_61
  · replace h := gs_ift c1 h
    refine lv_iconst (v := 1) hx hb dX12_strength_5 (by decide) ?_
    refine lv_goto (tgt := 61) hx hb dX12_strength_6 (by decide) ?_
    have h := Option.some.inj h
    subst h
    exact hret _ _ dX12_strength_61

set_option maxRecDepth 100000 in
theorem ggX12_drops_X12_isOpen : GoodIn wsX12_drops wsX12_isOpen := goodIn_r _ [6] rfl (by decide +kernel)
set_option maxRecDepth 100000 in
theorem gX12_drops_X12_isOpen : GoodIn wsX12_drops (va_wsS RX12 177 yX12_isOpen wsX12_isOpen) := goodIn_app (goodIn_of _ (by decide +kernel)) ggX12_drops_X12_isOpen
set_option maxRecDepth 100000 in
theorem ggX12_drops_X12_strength : GoodIn wsX12_drops wsX12_strength := goodIn_r _ [9] rfl (by decide +kernel)
set_option maxRecDepth 100000 in
theorem gX12_drops_X12_strength : GoodIn wsX12_drops (va_wsS RX12 180 yX12_strength wsX12_strength) := goodIn_app (goodIn_of _ (by decide +kernel)) ggX12_drops_X12_strength
set_option maxRecDepth 100000 in
theorem ggX12_drops_X12_puts : GoodIn wsX12_drops wsX12_puts := goodIn_r _ [13, 14, 15, 16, 17, 18, 19, 20, 21, 22, 23, 24, 25, 26, 27, 28, 29, 30, 31, 32, 33, 34, 35, 36, 37, 38, 39, 40, 41, 42, 43, 44, 45, 46, 47, 48, 49, 50, 51, 52, 53, 54, 55, 56, 57, 58, 59, 60, 61, 62, 63, 64, 65, 66, 67, 68, 69, 70, 71, 72, 73, 74, 75, 76] rfl (by decide +kernel)
set_option maxRecDepth 100000 in
theorem gX12_drops_X12_puts : GoodIn wsX12_drops (wsV RX12 183 RX12 yX12_puts wsX12_puts) := goodIn_app (goodIn_of _ (by decide +kernel)) ggX12_drops_X12_puts
theorem dX12_drops_0 : decode cX12_drops 0 = .ok (.aload_n 0, 1) := by decide +kernel
theorem dX12_drops_1 : decode cX12_drops 1 = .ok (.getfield 174, 3) := by decide +kernel
theorem dX12_drops_4 : decode cX12_drops 4 = .ok (.ifCond .le 64, 3) := by decide +kernel
theorem dX12_drops_7 : decode cX12_drops 7 = .ok (.aload_n 0, 1) := by decide +kernel
theorem dX12_drops_8 : decode cX12_drops 8 = .ok (.getfield 53, 3) := by decide +kernel
theorem dX12_drops_11 : decode cX12_drops 11 = .ok (.aload_n 0, 1) := by decide +kernel
theorem dX12_drops_12 : decode cX12_drops 12 = .ok (.getfield 174, 3) := by decide +kernel
theorem dX12_drops_15 : decode cX12_drops 15 = .ok (.iconst 1, 1) := by decide +kernel
theorem dX12_drops_16 : decode cX12_drops 16 = .ok (.isub, 1) := by decide +kernel
theorem dX12_drops_17 : decode cX12_drops 17 = .ok (.iaload, 1) := by decide +kernel
theorem dX12_drops_18 : decode cX12_drops 18 = .ok (.invokestatic 177, 3) := by decide +kernel
theorem dX12_drops_21 : decode cX12_drops 21 = .ok (.ifCond .ne 47, 3) := by decide +kernel
theorem dX12_drops_24 : decode cX12_drops 24 = .ok (.aload_n 0, 1) := by decide +kernel
theorem dX12_drops_25 : decode cX12_drops 25 = .ok (.getfield 53, 3) := by decide +kernel
theorem dX12_drops_28 : decode cX12_drops 28 = .ok (.aload_n 0, 1) := by decide +kernel
theorem dX12_drops_29 : decode cX12_drops 29 = .ok (.getfield 174, 3) := by decide +kernel
theorem dX12_drops_32 : decode cX12_drops 32 = .ok (.iconst 1, 1) := by decide +kernel
theorem dX12_drops_33 : decode cX12_drops 33 = .ok (.isub, 1) := by decide +kernel
theorem dX12_drops_34 : decode cX12_drops 34 = .ok (.iaload, 1) := by decide +kernel
theorem dX12_drops_35 : decode cX12_drops 35 = .ok (.invokestatic 180, 3) := by decide +kernel
theorem dX12_drops_38 : decode cX12_drops 38 = .ok (.iload_n 1, 1) := by decide +kernel
theorem dX12_drops_39 : decode cX12_drops 39 = .ok (.if_icmp .lt 29, 3) := by decide +kernel
theorem dX12_drops_42 : decode cX12_drops 42 = .ok (.aload_n 0, 1) := by decide +kernel
theorem dX12_drops_43 : decode cX12_drops 43 = .ok (.dup, 1) := by decide +kernel
theorem dX12_drops_44 : decode cX12_drops 44 = .ok (.getfield 174, 3) := by decide +kernel
theorem dX12_drops_47 : decode cX12_drops 47 = .ok (.iconst 1, 1) := by decide +kernel
theorem dX12_drops_48 : decode cX12_drops 48 = .ok (.isub, 1) := by decide +kernel
theorem dX12_drops_49 : decode cX12_drops 49 = .ok (.putfield 174, 3) := by decide +kernel
theorem dX12_drops_52 : decode cX12_drops 52 = .ok (.aload_n 0, 1) := by decide +kernel
theorem dX12_drops_53 : decode cX12_drops 53 = .ok (.aload_n 0, 1) := by decide +kernel
theorem dX12_drops_54 : decode cX12_drops 54 = .ok (.getfield 53, 3) := by decide +kernel
theorem dX12_drops_57 : decode cX12_drops 57 = .ok (.aload_n 0, 1) := by decide +kernel
theorem dX12_drops_58 : decode cX12_drops 58 = .ok (.getfield 174, 3) := by decide +kernel
theorem dX12_drops_61 : decode cX12_drops 61 = .ok (.iaload, 1) := by decide +kernel
theorem dX12_drops_62 : decode cX12_drops 62 = .ok (.invokevirtual 183, 3) := by decide +kernel
theorem dX12_drops_65 : decode cX12_drops 65 = .ok (.goto (-65), 3) := by decide +kernel
theorem dX12_drops_68 : decode cX12_drops 68 = .ok (.return_, 1) := by decide +kernel
abbrev w_X12_drops (E : gs_E) (a_t a_t_readCode a_t_waits a_t_songLong a_t_firstNote a_t_wit a_t_code a_t_tape a_t_refused a_t_newSongLong a_t_newFirstNote a_t_newWit a_t_newRow a_t_tested a_t_isTold a_t_rows a_t_ahead a_t_told a_t_pile a_t_common a_t_mostOf a_t_likes a_t_heard a_t_soon a_t_soonAll a_t_imageRow a_t_imageAhead a_t_imageHears : Nat) (v_t_thrown : Int32) (v_t_songs : Int32) (v_t_people : Int32) (v_t_forgetsAt : Int32) (v_t_fillsAt : Int32) (v_t_taped : Int32) (v_t_faultKind : Int32) (v_t_faultPlace : Int32) (v_t_long1 : Int32) (v_t_next0 : Int32) (v_t_sort : Int32) (v_t_place : Int32) (v_t_long0 : Int32) (v_t_value : Int32) (v_t_sign : Int32) (v_t_word : Int64) (v_t_newSongs : Int32) (v_t_newPeople : Int32) (v_t_newForgetsAt : Int32) (v_t_newFillsAt : Int32) (v_t_top : Int32) (v_t_firstValue : Int32) (v_t_lastValue : Int32) (v_t_waiting : Int32) (v_t_depth : Int32) (v_t_acts : Int32) (v_t_isWinter : Int32) (v_t_learntNow : Int32) (v_t_forgottenNow : Int32) (v_t_heardMany : Int32) (v_t_its0 : Int32) (v_t_hasImage : Int32) (v_t_imageActs : Int32) (v_t_imageHeard : Int32) (r_t_readCode : Nat → Int32) (r_t_waits : Nat → Int32) : va_W := [(a_t, .inr (12, [.int v_t_thrown, .int v_t_songs, .int v_t_people, .int v_t_forgetsAt, .int v_t_fillsAt, .ref a_t_songLong, .ref a_t_firstNote, .ref a_t_wit, .ref a_t_code, .ref a_t_tape, .int v_t_taped, .int v_t_faultKind, .int v_t_faultPlace, .ref a_t_refused, .int v_t_long1, .int v_t_next0, .int v_t_sort, .int v_t_place, .int v_t_long0, .int v_t_value, .int v_t_sign, .long v_t_word, .int v_t_newSongs, .int v_t_newPeople, .int v_t_newForgetsAt, .int v_t_newFillsAt, .int v_t_top, .int v_t_firstValue, .int v_t_lastValue, .int v_t_waiting, .int v_t_depth, .ref a_t_newSongLong, .ref a_t_newFirstNote, .ref a_t_newWit, .ref a_t_newRow, .ref a_t_readCode, .ref a_t_waits, .ref a_t_tested, .ref a_t_isTold, .ref a_t_rows, .ref a_t_ahead, .int v_t_acts, .ref a_t_told, .ref a_t_pile, .int v_t_isWinter, .int v_t_learntNow, .int v_t_forgottenNow, .ref a_t_common, .ref a_t_mostOf, .ref a_t_likes, .int v_t_heardMany, .ref a_t_heard, .ref a_t_soon, .ref a_t_soonAll, .int v_t_its0, .int v_t_hasImage, .int v_t_imageActs, .int v_t_imageHeard, .ref a_t_imageRow, .ref a_t_imageAhead, .ref a_t_imageHears])), (a_t_readCode, .inl (E.2.1, 1400, .inl r_t_readCode)), (a_t_waits, .inl (E.2.1, 950, .inl r_t_waits))]
abbrev rm_X12_drops : Room := { frames := 1, cells := 0, slots := 0, locals := 21 }
def S_X12_drops_0 (p : Program) (l : Launch) (e : Env) (s : State) (m : MethodId) (args : Array Value) (below : List Frame) (meth : Method) (c : Code) (Q : State → Prop) (a_t a_t_readCode a_t_waits a_t_songLong a_t_firstNote a_t_wit a_t_code a_t_tape a_t_refused a_t_newSongLong a_t_newFirstNote a_t_newWit a_t_newRow a_t_tested a_t_isTold a_t_rows a_t_ahead a_t_told a_t_pile a_t_common a_t_mostOf a_t_likes a_t_heard a_t_soon a_t_soonAll a_t_imageRow a_t_imageAhead a_t_imageHears : Nat) (E : gs_E) (A : Nat → Prop) (v_t_thrown : Int32) (v_t_songs : Int32) (v_t_people : Int32) (v_t_forgetsAt : Int32) (v_t_fillsAt : Int32) (v_t_taped : Int32) (v_t_faultKind : Int32) (v_t_faultPlace : Int32) (v_t_long1 : Int32) (v_t_next0 : Int32) (v_t_sort : Int32) (v_t_place : Int32) (v_t_long0 : Int32) (v_t_value : Int32) (v_t_sign : Int32) (v_t_word : Int64) (v_t_newSongs : Int32) (v_t_newPeople : Int32) (v_t_newForgetsAt : Int32) (v_t_newFillsAt : Int32) (v_t_top : Int32) (v_t_firstValue : Int32) (v_t_lastValue : Int32) (v_t_waiting : Int32) (v_t_depth : Int32) (v_t_acts : Int32) (v_t_isWinter : Int32) (v_t_learntNow : Int32) (v_t_forgottenNow : Int32) (v_t_heardMany : Int32) (v_t_its0 : Int32) (v_t_hasImage : Int32) (v_t_imageActs : Int32) (v_t_imageHeard : Int32) (r_t_readCode : Nat → Int32) (r_t_waits : Nat → Int32) (x1 : Int32) : Prop := ∀ (H : Heap) (locs : List Loc) (ls : Array Slot), va_P E.1 vwCl (w_X12_drops E a_t a_t_readCode a_t_waits a_t_songLong a_t_firstNote a_t_wit a_t_code a_t_tape a_t_refused a_t_newSongLong a_t_newFirstNote a_t_newWit a_t_newRow a_t_tested a_t_isTold a_t_rows a_t_ahead a_t_told a_t_pile a_t_common a_t_mostOf a_t_likes a_t_heard a_t_soon a_t_soonAll a_t_imageRow a_t_imageAhead a_t_imageHears v_t_thrown v_t_songs v_t_people v_t_forgetsAt v_t_fillsAt v_t_taped v_t_faultKind v_t_faultPlace v_t_long1 v_t_next0 v_t_sort v_t_place v_t_long0 v_t_value v_t_sign v_t_word v_t_newSongs v_t_newPeople v_t_newForgetsAt v_t_newFillsAt v_t_top v_t_firstValue v_t_lastValue v_t_waiting v_t_depth v_t_acts v_t_isWinter v_t_learntNow v_t_forgottenNow v_t_heardMany v_t_its0 v_t_hasImage v_t_imageActs v_t_imageHeard r_t_readCode r_t_waits) H → va_D A (w_X12_drops E a_t a_t_readCode a_t_waits a_t_songLong a_t_firstNote a_t_wit a_t_code a_t_tape a_t_refused a_t_newSongLong a_t_newFirstNote a_t_newWit a_t_newRow a_t_tested a_t_isTold a_t_rows a_t_ahead a_t_told a_t_pile a_t_common a_t_mostOf a_t_likes a_t_heard a_t_soon a_t_soonAll a_t_imageRow a_t_imageAhead a_t_imageHears v_t_thrown v_t_songs v_t_people v_t_forgetsAt v_t_fillsAt v_t_taped v_t_faultKind v_t_faultPlace v_t_long1 v_t_next0 v_t_sort v_t_place v_t_long0 v_t_value v_t_sign v_t_word v_t_newSongs v_t_newPeople v_t_newForgetsAt v_t_newFillsAt v_t_top v_t_firstValue v_t_lastValue v_t_waiting v_t_depth v_t_acts v_t_isWinter v_t_learntNow v_t_forgottenNow v_t_heardMany v_t_its0 v_t_hasImage v_t_imageActs v_t_imageHeard r_t_readCode r_t_waits) → va_S A s.heap H locs → lv_has ls 2 [(0, .ref a_t), (1, .int x1)] → W p l e rm_X12_drops s m args below meth c H locs 0 0 Q (F0 m 0 ls [])
def f_X12_drops_0 (x1 : Int32) (r_t_waits : Nat → Int32) (K0 : Int32 → Int32 → (Nat → Int32) → Option (Int32 × Int32 × (Nat → Int32))) (v_t_top : Int32) (v_t_waiting : Int32) (r_t_readCode : Nat → Int32) : Option (Int32 × Int32 × (Nat → Int32)) :=
  if v_t_waiting ≤ 0 then
    some (v_t_top, v_t_waiting, r_t_readCode)
  else
    gs_gd (gs_in (v_t_waiting - 1) 950) <|
    gs_b1 (f_X12_isOpen (r_t_waits (v_t_waiting - 1).toNatClampNeg)) fun r3 =>
    if r3 = 0 then
      gs_gd (gs_in (v_t_waiting - 1) 950) <|
      gs_b1 (f_X12_strength (r_t_waits (v_t_waiting - 1).toNatClampNeg)) fun r6 =>
      if r6 < x1 then
        some (v_t_top, v_t_waiting, r_t_readCode)
      else
        gs_gd (gs_in (v_t_waiting - 1) 950) <|
        gs_b2 (f_X12_puts (r_t_waits (v_t_waiting - 1).toNatClampNeg) v_t_top r_t_readCode) fun o9_0 o9_1 =>
        K0 o9_0 (v_t_waiting - 1) o9_1
    else
      some (v_t_top, v_t_waiting, r_t_readCode)
set_option maxHeartbeats 4000000 in
set_option maxRecDepth 100000 in
theorem t_X12_drops_0_b {p : Program} {l : Launch} {e : Env} {s : State} {m : MethodId} {args : Array Value} {below : List Frame} {meth : Method} {c : Code} {Q : State → Prop} {E : gs_E} {A : Nat → Prop} {a_t a_t_readCode a_t_waits a_t_songLong a_t_firstNote a_t_wit a_t_code a_t_tape a_t_refused a_t_newSongLong a_t_newFirstNote a_t_newWit a_t_newRow a_t_tested a_t_isTold a_t_rows a_t_ahead a_t_told a_t_pile a_t_common a_t_mostOf a_t_likes a_t_heard a_t_soon a_t_soonAll a_t_imageRow a_t_imageAhead a_t_imageHears : Nat} {o_t_top : Int32} {o_t_waiting : Int32} {o_t_readCode : Nat → Int32} (X0 : gs_X wsX12_drops cX12_drops RX12 2 none p s m args meth c) (hk : gs_K E s) {v_t_thrown : Int32} {v_t_songs : Int32} {v_t_people : Int32} {v_t_forgetsAt : Int32} {v_t_fillsAt : Int32} {v_t_taped : Int32} {v_t_faultKind : Int32} {v_t_faultPlace : Int32} {v_t_long1 : Int32} {v_t_next0 : Int32} {v_t_sort : Int32} {v_t_place : Int32} {v_t_long0 : Int32} {v_t_value : Int32} {v_t_sign : Int32} {v_t_word : Int64} {v_t_newSongs : Int32} {v_t_newPeople : Int32} {v_t_newForgetsAt : Int32} {v_t_newFillsAt : Int32} {v_t_top : Int32} {v_t_firstValue : Int32} {v_t_lastValue : Int32} {v_t_waiting : Int32} {v_t_depth : Int32} {v_t_acts : Int32} {v_t_isWinter : Int32} {v_t_learntNow : Int32} {v_t_forgottenNow : Int32} {v_t_heardMany : Int32} {v_t_its0 : Int32} {v_t_hasImage : Int32} {v_t_imageActs : Int32} {v_t_imageHeard : Int32} {r_t_readCode : Nat → Int32} {r_t_waits : Nat → Int32} {x1 : Int32} (hret : ∀ (H : Heap) (locs : List Loc) (pc : Nat) (ls : Array Slot), va_P E.1 vwCl (w_X12_drops E a_t a_t_readCode a_t_waits a_t_songLong a_t_firstNote a_t_wit a_t_code a_t_tape a_t_refused a_t_newSongLong a_t_newFirstNote a_t_newWit a_t_newRow a_t_tested a_t_isTold a_t_rows a_t_ahead a_t_told a_t_pile a_t_common a_t_mostOf a_t_likes a_t_heard a_t_soon a_t_soonAll a_t_imageRow a_t_imageAhead a_t_imageHears v_t_thrown v_t_songs v_t_people v_t_forgetsAt v_t_fillsAt v_t_taped v_t_faultKind v_t_faultPlace v_t_long1 v_t_next0 v_t_sort v_t_place v_t_long0 v_t_value v_t_sign v_t_word v_t_newSongs v_t_newPeople v_t_newForgetsAt v_t_newFillsAt o_t_top v_t_firstValue v_t_lastValue o_t_waiting v_t_depth v_t_acts v_t_isWinter v_t_learntNow v_t_forgottenNow v_t_heardMany v_t_its0 v_t_hasImage v_t_imageActs v_t_imageHeard o_t_readCode r_t_waits) H → va_S A s.heap H locs → decode cX12_drops pc = .ok (.return_, 1) → W p l e rm_X12_drops s m args below meth c H locs 0 0 Q (F0 m pc ls [])) {K0 : Int32 → Int32 → (Nat → Int32) → Option (Int32 × Int32 × (Nat → Int32))} (hK0 : ∀ (v_t_top : Int32) (v_t_waiting : Int32) (r_t_readCode : Nat → Int32), K0 v_t_top v_t_waiting r_t_readCode = some (o_t_top, o_t_waiting, o_t_readCode) → S_X12_drops_0 p l e s m args below meth c Q a_t a_t_readCode a_t_waits a_t_songLong a_t_firstNote a_t_wit a_t_code a_t_tape a_t_refused a_t_newSongLong a_t_newFirstNote a_t_newWit a_t_newRow a_t_tested a_t_isTold a_t_rows a_t_ahead a_t_told a_t_pile a_t_common a_t_mostOf a_t_likes a_t_heard a_t_soon a_t_soonAll a_t_imageRow a_t_imageAhead a_t_imageHears E A v_t_thrown v_t_songs v_t_people v_t_forgetsAt v_t_fillsAt v_t_taped v_t_faultKind v_t_faultPlace v_t_long1 v_t_next0 v_t_sort v_t_place v_t_long0 v_t_value v_t_sign v_t_word v_t_newSongs v_t_newPeople v_t_newForgetsAt v_t_newFillsAt v_t_top v_t_firstValue v_t_lastValue v_t_waiting v_t_depth v_t_acts v_t_isWinter v_t_learntNow v_t_forgottenNow v_t_heardMany v_t_its0 v_t_hasImage v_t_imageActs v_t_imageHeard r_t_readCode r_t_waits x1) (h : f_X12_drops_0 x1 r_t_waits K0 v_t_top v_t_waiting r_t_readCode = some (o_t_top, o_t_waiting, o_t_readCode)) : S_X12_drops_0 p l e s m args below meth c Q a_t a_t_readCode a_t_waits a_t_songLong a_t_firstNote a_t_wit a_t_code a_t_tape a_t_refused a_t_newSongLong a_t_newFirstNote a_t_newWit a_t_newRow a_t_tested a_t_isTold a_t_rows a_t_ahead a_t_told a_t_pile a_t_common a_t_mostOf a_t_likes a_t_heard a_t_soon a_t_soonAll a_t_imageRow a_t_imageAhead a_t_imageHears E A v_t_thrown v_t_songs v_t_people v_t_forgetsAt v_t_fillsAt v_t_taped v_t_faultKind v_t_faultPlace v_t_long1 v_t_next0 v_t_sort v_t_place v_t_long0 v_t_value v_t_sign v_t_word v_t_newSongs v_t_newPeople v_t_newForgetsAt v_t_newFillsAt v_t_top v_t_firstValue v_t_lastValue v_t_waiting v_t_depth v_t_acts v_t_isWinter v_t_learntNow v_t_forgottenNow v_t_heardMany v_t_its0 v_t_hasImage v_t_imageActs v_t_imageHeard r_t_readCode r_t_waits x1 := by
  obtain ⟨hx, hb, hml, hown, hts, hr, hlk⟩ := id X0
  intro H locs ls hP hD hS hl
  unfold f_X12_drops_0 at h
  refine lv_aload_n hx hb dX12_drops_0 rfl (lv_at hl 0 rfl) ?_
  refine va_get (D := E.1) (ci := 12) (v := .int v_t_waiting) (C := RX12) (T := TX12) (N := 61) hx hb hts (fun _ h => (List.mem_cons_of_mem _ (List.mem_append_right _ h))) hown hk.1 hP 0 rfl rfl 29 (by decide) (hts (.fieldLink RX12 174 "GapSongsModel" "waiting" "I") (List.mem_cons_of_mem _ (List.mem_append_left _ (List.mem_of_getElem? (i := 0) rfl)))) (fun _ h9 => h9) rfl dX12_drops_1 ?_
  refine lv_if_le (tgt := 68) hx hb dX12_drops_4 (by decide) (fun c1 => ?_) (fun c1 => ?_)
  · replace h := gs_ift c1 h
    have h := Option.some.inj h
    obtain ⟨w0, h⟩ := Prod.mk.inj h
    obtain ⟨w1, h⟩ := Prod.mk.inj h
    subst h
    subst w0
    subst w1
    exact hret _ _ _ _ hP hS dX12_drops_68
  · replace h := gs_iff c1 h
    refine lv_aload_n hx hb dX12_drops_7 rfl (lv_at hl 0 rfl) ?_
    refine va_get (D := E.1) (ci := 12) (v := .ref a_t_waits) (C := RX12) (T := TX12) (N := 61) hx hb hts (fun _ h => (List.mem_cons_of_mem _ (List.mem_append_right _ h))) hown hk.1 hP 0 rfl rfl 36 (by decide) (hts (.fieldLink RX12 53 "GapSongsModel" "waits" "[I") (List.mem_cons_of_mem _ (List.mem_append_left _ (List.mem_of_getElem? (i := 1) rfl)))) (fun _ h9 => h9) rfl dX12_drops_8 ?_
    refine lv_aload_n hx hb dX12_drops_11 rfl (lv_at hl 0 rfl) ?_
    refine va_get (D := E.1) (ci := 12) (v := .int v_t_waiting) (C := RX12) (T := TX12) (N := 61) hx hb hts (fun _ h => (List.mem_cons_of_mem _ (List.mem_append_right _ h))) hown hk.1 hP 0 rfl rfl 29 (by decide) (hts (.fieldLink RX12 174 "GapSongsModel" "waiting" "I") (List.mem_cons_of_mem _ (List.mem_append_left _ (List.mem_of_getElem? (i := 0) rfl)))) (fun _ h9 => h9) rfl dX12_drops_12 ?_
    refine lv_iconst (v := 1) hx hb dX12_drops_15 (by decide) ?_
    refine lv_isub hx hb dX12_drops_16 ?_
    obtain ⟨g2, h⟩ := gs_gd_e h
    refine va_iald hx hb hk.1 hP 2 0 rfl rfl (gs_in_e g2) dX12_drops_17 ?_
    obtain ⟨r3, hz3, h⟩ := gs_b1_e h
    refine gs_backRi (va_runS (As := [.int (r_t_waits (v_t_waiting - 1).toNatClampNeg)]) (rest := []) ⟨hx, hb, hml, hown, hts⟩ (c_X12_isOpen l E (r_t_waits (v_t_waiting - 1).toNatClampNeg) r3 hz3) (va_cwS 1 hts gX12_drops_X12_isOpen rfl rfl rfl (by decide +kernel) ⟨Nat.le_of_ble_eq_true rfl, Nat.le_of_ble_eq_true rfl⟩) (gs_pre hk hP hD (is := []) rfl rfl) rfl rfl hl.1 rfl (lv_room (Nat.le_of_ble_eq_true rfl)) dX12_drops_18 ⟨Nat.zero_le _, Nat.zero_le _⟩) ?_
    refine lv_if_ne (tgt := 68) hx hb dX12_drops_21 (by decide) (fun c4 => ?_) (fun c4 => ?_)
    · replace h := gs_iff c4 h
      have h := Option.some.inj h
      obtain ⟨w0, h⟩ := Prod.mk.inj h
      obtain ⟨w1, h⟩ := Prod.mk.inj h
      subst h
      subst w0
      subst w1
      exact hret _ _ _ _ hP hS dX12_drops_68
    · replace h := gs_ift c4 h
      refine lv_aload_n hx hb dX12_drops_24 rfl (lv_at hl 0 rfl) ?_
      refine va_get (D := E.1) (ci := 12) (v := .ref a_t_waits) (C := RX12) (T := TX12) (N := 61) hx hb hts (fun _ h => (List.mem_cons_of_mem _ (List.mem_append_right _ h))) hown hk.1 hP 0 rfl rfl 36 (by decide) (hts (.fieldLink RX12 53 "GapSongsModel" "waits" "[I") (List.mem_cons_of_mem _ (List.mem_append_left _ (List.mem_of_getElem? (i := 1) rfl)))) (fun _ h9 => h9) rfl dX12_drops_25 ?_
      refine lv_aload_n hx hb dX12_drops_28 rfl (lv_at hl 0 rfl) ?_
      refine va_get (D := E.1) (ci := 12) (v := .int v_t_waiting) (C := RX12) (T := TX12) (N := 61) hx hb hts (fun _ h => (List.mem_cons_of_mem _ (List.mem_append_right _ h))) hown hk.1 hP 0 rfl rfl 29 (by decide) (hts (.fieldLink RX12 174 "GapSongsModel" "waiting" "I") (List.mem_cons_of_mem _ (List.mem_append_left _ (List.mem_of_getElem? (i := 0) rfl)))) (fun _ h9 => h9) rfl dX12_drops_29 ?_
      refine lv_iconst (v := 1) hx hb dX12_drops_32 (by decide) ?_
      refine lv_isub hx hb dX12_drops_33 ?_
      obtain ⟨g5, h⟩ := gs_gd_e h
      refine va_iald hx hb hk.1 hP 2 0 rfl rfl (gs_in_e g5) dX12_drops_34 ?_
      obtain ⟨r6, hz6, h⟩ := gs_b1_e h
      refine gs_backRi (va_runS (As := [.int (r_t_waits (v_t_waiting - 1).toNatClampNeg)]) (rest := []) ⟨hx, hb, hml, hown, hts⟩ (c_X12_strength l E (r_t_waits (v_t_waiting - 1).toNatClampNeg) r6 hz6) (va_cwS 1 hts gX12_drops_X12_strength rfl rfl rfl (by decide +kernel) ⟨Nat.le_of_ble_eq_true rfl, Nat.le_of_ble_eq_true rfl⟩) (gs_pre hk hP hD (is := []) rfl rfl) rfl rfl hl.1 rfl (lv_room (Nat.le_of_ble_eq_true rfl)) dX12_drops_35 ⟨Nat.zero_le _, Nat.zero_le _⟩) ?_
      refine lv_iload_n hx hb dX12_drops_38 rfl (lv_at hl 1 rfl) ?_
      refine lv_icmp_lt (tgt := 68) hx hb dX12_drops_39 (by decide) (fun c7 => ?_) (fun c7 => ?_)
      · replace h := gs_ift c7 h
        have h := Option.some.inj h
        obtain ⟨w0, h⟩ := Prod.mk.inj h
        obtain ⟨w1, h⟩ := Prod.mk.inj h
        subst h
        subst w0
        subst w1
        exact hret _ _ _ _ hP hS dX12_drops_68
      · replace h := gs_iff c7 h
        refine lv_aload_n hx hb dX12_drops_42 rfl (lv_at hl 0 rfl) ?_
        refine lv_dup hx hb dX12_drops_43 rfl ?_
        refine va_get (D := E.1) (ci := 12) (v := .int v_t_waiting) (C := RX12) (T := TX12) (N := 61) hx hb hts (fun _ h => (List.mem_cons_of_mem _ (List.mem_append_right _ h))) hown hk.1 hP 0 rfl rfl 29 (by decide) (hts (.fieldLink RX12 174 "GapSongsModel" "waiting" "I") (List.mem_cons_of_mem _ (List.mem_append_left _ (List.mem_of_getElem? (i := 0) rfl)))) (fun _ h9 => h9) rfl dX12_drops_44 ?_
        refine lv_iconst (v := 1) hx hb dX12_drops_47 (by decide) ?_
        refine lv_isub hx hb dX12_drops_48 ?_
        refine va_put (D := E.1) (ci := 12) (v := .int (v_t_waiting - 1)) (ty := .int) (C := RX12) (T := TX12) (N := 61) hx hb hts (fun _ h => (List.mem_cons_of_mem _ (List.mem_append_right _ h))) tyX12 tyX12_ok nmX12 hown hk.1 hP hD hS 0 rfl rfl 29 (by decide) (hts (.fieldLink RX12 174 "GapSongsModel" "waiting" "I") (List.mem_cons_of_mem _ (List.mem_append_left _ (List.mem_of_getElem? (i := 0) rfl)))) (fun _ h9 => h9) rfl (by decide +kernel) rfl rfl (Nat.le_of_ble_eq_true rfl) dX12_drops_49 (fun H locs hP hD hS => ?_)
        have hP : va_P E.1 vwCl (w_X12_drops E a_t a_t_readCode a_t_waits a_t_songLong a_t_firstNote a_t_wit a_t_code a_t_tape a_t_refused a_t_newSongLong a_t_newFirstNote a_t_newWit a_t_newRow a_t_tested a_t_isTold a_t_rows a_t_ahead a_t_told a_t_pile a_t_common a_t_mostOf a_t_likes a_t_heard a_t_soon a_t_soonAll a_t_imageRow a_t_imageAhead a_t_imageHears v_t_thrown v_t_songs v_t_people v_t_forgetsAt v_t_fillsAt v_t_taped v_t_faultKind v_t_faultPlace v_t_long1 v_t_next0 v_t_sort v_t_place v_t_long0 v_t_value v_t_sign v_t_word v_t_newSongs v_t_newPeople v_t_newForgetsAt v_t_newFillsAt v_t_top v_t_firstValue v_t_lastValue (v_t_waiting - 1) v_t_depth v_t_acts v_t_isWinter v_t_learntNow v_t_forgottenNow v_t_heardMany v_t_its0 v_t_hasImage v_t_imageActs v_t_imageHeard r_t_readCode r_t_waits) H := hP
        have hD : va_D A (w_X12_drops E a_t a_t_readCode a_t_waits a_t_songLong a_t_firstNote a_t_wit a_t_code a_t_tape a_t_refused a_t_newSongLong a_t_newFirstNote a_t_newWit a_t_newRow a_t_tested a_t_isTold a_t_rows a_t_ahead a_t_told a_t_pile a_t_common a_t_mostOf a_t_likes a_t_heard a_t_soon a_t_soonAll a_t_imageRow a_t_imageAhead a_t_imageHears v_t_thrown v_t_songs v_t_people v_t_forgetsAt v_t_fillsAt v_t_taped v_t_faultKind v_t_faultPlace v_t_long1 v_t_next0 v_t_sort v_t_place v_t_long0 v_t_value v_t_sign v_t_word v_t_newSongs v_t_newPeople v_t_newForgetsAt v_t_newFillsAt v_t_top v_t_firstValue v_t_lastValue (v_t_waiting - 1) v_t_depth v_t_acts v_t_isWinter v_t_learntNow v_t_forgottenNow v_t_heardMany v_t_its0 v_t_hasImage v_t_imageActs v_t_imageHeard r_t_readCode r_t_waits) := hD
        refine lv_aload_n hx hb dX12_drops_52 rfl (lv_at hl 0 rfl) ?_
        refine lv_aload_n hx hb dX12_drops_53 rfl (lv_at hl 0 rfl) ?_
        refine va_get (D := E.1) (ci := 12) (v := .ref a_t_waits) (C := RX12) (T := TX12) (N := 61) hx hb hts (fun _ h => (List.mem_cons_of_mem _ (List.mem_append_right _ h))) hown hk.1 hP 0 rfl rfl 36 (by decide) (hts (.fieldLink RX12 53 "GapSongsModel" "waits" "[I") (List.mem_cons_of_mem _ (List.mem_append_left _ (List.mem_of_getElem? (i := 1) rfl)))) (fun _ h9 => h9) rfl dX12_drops_54 ?_
        refine lv_aload_n hx hb dX12_drops_57 rfl (lv_at hl 0 rfl) ?_
        refine va_get (D := E.1) (ci := 12) (v := .int (v_t_waiting - 1)) (C := RX12) (T := TX12) (N := 61) hx hb hts (fun _ h => (List.mem_cons_of_mem _ (List.mem_append_right _ h))) hown hk.1 hP 0 rfl rfl 29 (by decide) (hts (.fieldLink RX12 174 "GapSongsModel" "waiting" "I") (List.mem_cons_of_mem _ (List.mem_append_left _ (List.mem_of_getElem? (i := 0) rfl)))) (fun _ h9 => h9) rfl dX12_drops_58 ?_
        obtain ⟨g8, h⟩ := gs_gd_e h
        refine va_iald hx hb hk.1 hP 2 0 rfl rfl (gs_in_e g8) dX12_drops_61 ?_
        obtain ⟨o9_0, o9_1, hz9, h⟩ := gs_b2_e h
        refine gs_backWv (ws1 := (w_X12_drops E a_t a_t_readCode a_t_waits a_t_songLong a_t_firstNote a_t_wit a_t_code a_t_tape a_t_refused a_t_newSongLong a_t_newFirstNote a_t_newWit a_t_newRow a_t_tested a_t_isTold a_t_rows a_t_ahead a_t_told a_t_pile a_t_common a_t_mostOf a_t_likes a_t_heard a_t_soon a_t_soonAll a_t_imageRow a_t_imageAhead a_t_imageHears v_t_thrown v_t_songs v_t_people v_t_forgetsAt v_t_fillsAt v_t_taped v_t_faultKind v_t_faultPlace v_t_long1 v_t_next0 v_t_sort v_t_place v_t_long0 v_t_value v_t_sign v_t_word v_t_newSongs v_t_newPeople v_t_newForgetsAt v_t_newFillsAt o9_0 v_t_firstValue v_t_lastValue (v_t_waiting - 1) v_t_depth v_t_acts v_t_isWinter v_t_learntNow v_t_forgottenNow v_t_heardMany v_t_its0 v_t_hasImage v_t_imageActs v_t_imageHeard o9_1 r_t_waits)) (va_runV (As := [.int (r_t_waits (v_t_waiting - 1).toNatClampNeg)]) (rest := []) ⟨hx, hb, hml, hown, hts⟩ (c_X12_puts l E a_t a_t_readCode a_t_songLong a_t_firstNote a_t_wit a_t_code a_t_tape a_t_refused a_t_newSongLong a_t_newFirstNote a_t_newWit a_t_newRow a_t_waits a_t_tested a_t_isTold a_t_rows a_t_ahead a_t_told a_t_pile a_t_common a_t_mostOf a_t_likes a_t_heard a_t_soon a_t_soonAll a_t_imageRow a_t_imageAhead a_t_imageHears v_t_thrown v_t_songs v_t_people v_t_forgetsAt v_t_fillsAt v_t_taped v_t_faultKind v_t_faultPlace v_t_long1 v_t_next0 v_t_sort v_t_place v_t_long0 v_t_value v_t_sign v_t_word v_t_newSongs v_t_newPeople v_t_newForgetsAt v_t_newFillsAt v_t_top v_t_firstValue v_t_lastValue (v_t_waiting - 1) v_t_depth v_t_acts v_t_isWinter v_t_learntNow v_t_forgottenNow v_t_heardMany v_t_its0 v_t_hasImage v_t_imageActs v_t_imageHeard r_t_readCode (r_t_waits (v_t_waiting - 1).toNatClampNeg) o9_0 o9_1 hz9) (cwV 1 hts gX12_drops_X12_puts rfl rfl rfl (by decide +kernel) ⟨Nat.le_of_ble_eq_true rfl, Nat.le_of_ble_eq_true rfl⟩) (gs_preV (ci := 12) hk hP hD (is := [0, 1]) rfl rfl rfl rfl) rfl rfl hl.1 rfl (lv_room (Nat.le_of_ble_eq_true rfl)) dX12_drops_62 ⟨Nat.zero_le _, Nat.zero_le _⟩) hP hD hS [0, 1] rfl rfl rfl rfl (fun H locs hP hD hS => ?_)
        refine lv_goto (tgt := 0) hx hb dX12_drops_65 (by decide) ?_
        exact hK0 o9_0 (v_t_waiting - 1) o9_1 h _ _ _ hP hD hS (lv_sub hl [0, 1] rfl)
set_option maxHeartbeats 4000000 in
set_option maxRecDepth 100000 in
theorem t_X12_drops_0_n {p : Program} {l : Launch} {e : Env} {s : State} {m : MethodId} {args : Array Value} {below : List Frame} {meth : Method} {c : Code} {Q : State → Prop} {E : gs_E} {A : Nat → Prop} {a_t a_t_readCode a_t_waits a_t_songLong a_t_firstNote a_t_wit a_t_code a_t_tape a_t_refused a_t_newSongLong a_t_newFirstNote a_t_newWit a_t_newRow a_t_tested a_t_isTold a_t_rows a_t_ahead a_t_told a_t_pile a_t_common a_t_mostOf a_t_likes a_t_heard a_t_soon a_t_soonAll a_t_imageRow a_t_imageAhead a_t_imageHears : Nat} {o_t_top : Int32} {o_t_waiting : Int32} {o_t_readCode : Nat → Int32} (X0 : gs_X wsX12_drops cX12_drops RX12 2 none p s m args meth c) (hk : gs_K E s) {v_t_thrown : Int32} {v_t_songs : Int32} {v_t_people : Int32} {v_t_forgetsAt : Int32} {v_t_fillsAt : Int32} {v_t_taped : Int32} {v_t_faultKind : Int32} {v_t_faultPlace : Int32} {v_t_long1 : Int32} {v_t_next0 : Int32} {v_t_sort : Int32} {v_t_place : Int32} {v_t_long0 : Int32} {v_t_value : Int32} {v_t_sign : Int32} {v_t_word : Int64} {v_t_newSongs : Int32} {v_t_newPeople : Int32} {v_t_newForgetsAt : Int32} {v_t_newFillsAt : Int32} {v_t_firstValue : Int32} {v_t_lastValue : Int32} {v_t_depth : Int32} {v_t_acts : Int32} {v_t_isWinter : Int32} {v_t_learntNow : Int32} {v_t_forgottenNow : Int32} {v_t_heardMany : Int32} {v_t_its0 : Int32} {v_t_hasImage : Int32} {v_t_imageActs : Int32} {v_t_imageHeard : Int32} {r_t_waits : Nat → Int32} {x1 : Int32} (hret : ∀ (H : Heap) (locs : List Loc) (pc : Nat) (ls : Array Slot), va_P E.1 vwCl (w_X12_drops E a_t a_t_readCode a_t_waits a_t_songLong a_t_firstNote a_t_wit a_t_code a_t_tape a_t_refused a_t_newSongLong a_t_newFirstNote a_t_newWit a_t_newRow a_t_tested a_t_isTold a_t_rows a_t_ahead a_t_told a_t_pile a_t_common a_t_mostOf a_t_likes a_t_heard a_t_soon a_t_soonAll a_t_imageRow a_t_imageAhead a_t_imageHears v_t_thrown v_t_songs v_t_people v_t_forgetsAt v_t_fillsAt v_t_taped v_t_faultKind v_t_faultPlace v_t_long1 v_t_next0 v_t_sort v_t_place v_t_long0 v_t_value v_t_sign v_t_word v_t_newSongs v_t_newPeople v_t_newForgetsAt v_t_newFillsAt o_t_top v_t_firstValue v_t_lastValue o_t_waiting v_t_depth v_t_acts v_t_isWinter v_t_learntNow v_t_forgottenNow v_t_heardMany v_t_its0 v_t_hasImage v_t_imageActs v_t_imageHeard o_t_readCode r_t_waits) H → va_S A s.heap H locs → decode cX12_drops pc = .ok (.return_, 1) → W p l e rm_X12_drops s m args below meth c H locs 0 0 Q (F0 m pc ls [])) : ∀ (n : Nat) (v_t_top : Int32) (v_t_waiting : Int32) (r_t_readCode : Nat → Int32), gs_it (fun _ _ _ => none) (f_X12_drops_0 x1 r_t_waits) n v_t_top v_t_waiting r_t_readCode = some (o_t_top, o_t_waiting, o_t_readCode) → S_X12_drops_0 p l e s m args below meth c Q a_t a_t_readCode a_t_waits a_t_songLong a_t_firstNote a_t_wit a_t_code a_t_tape a_t_refused a_t_newSongLong a_t_newFirstNote a_t_newWit a_t_newRow a_t_tested a_t_isTold a_t_rows a_t_ahead a_t_told a_t_pile a_t_common a_t_mostOf a_t_likes a_t_heard a_t_soon a_t_soonAll a_t_imageRow a_t_imageAhead a_t_imageHears E A v_t_thrown v_t_songs v_t_people v_t_forgetsAt v_t_fillsAt v_t_taped v_t_faultKind v_t_faultPlace v_t_long1 v_t_next0 v_t_sort v_t_place v_t_long0 v_t_value v_t_sign v_t_word v_t_newSongs v_t_newPeople v_t_newForgetsAt v_t_newFillsAt v_t_top v_t_firstValue v_t_lastValue v_t_waiting v_t_depth v_t_acts v_t_isWinter v_t_learntNow v_t_forgottenNow v_t_heardMany v_t_its0 v_t_hasImage v_t_imageActs v_t_imageHeard r_t_readCode r_t_waits x1 := by
  intro n
  induction n with
  | zero =>
    intro v_t_top v_t_waiting r_t_readCode h
    have h : (none : Option (Int32 × Int32 × (Nat → Int32))) = some (o_t_top, o_t_waiting, o_t_readCode) := h
    cases h
  | succ n ih =>
    intro v_t_top v_t_waiting r_t_readCode h
    exact t_X12_drops_0_b X0 hk  hret  (K0 := gs_it (fun _ _ _ => none) (f_X12_drops_0 x1 r_t_waits) n) (hK0 := ih) (h := h)
theorem t_X12_drops_0 {p : Program} {l : Launch} {e : Env} {s : State} {m : MethodId} {args : Array Value} {below : List Frame} {meth : Method} {c : Code} {Q : State → Prop} {E : gs_E} {A : Nat → Prop} {a_t a_t_readCode a_t_waits a_t_songLong a_t_firstNote a_t_wit a_t_code a_t_tape a_t_refused a_t_newSongLong a_t_newFirstNote a_t_newWit a_t_newRow a_t_tested a_t_isTold a_t_rows a_t_ahead a_t_told a_t_pile a_t_common a_t_mostOf a_t_likes a_t_heard a_t_soon a_t_soonAll a_t_imageRow a_t_imageAhead a_t_imageHears : Nat} {o_t_top : Int32} {o_t_waiting : Int32} {o_t_readCode : Nat → Int32} (X0 : gs_X wsX12_drops cX12_drops RX12 2 none p s m args meth c) (hk : gs_K E s) {v_t_thrown : Int32} {v_t_songs : Int32} {v_t_people : Int32} {v_t_forgetsAt : Int32} {v_t_fillsAt : Int32} {v_t_taped : Int32} {v_t_faultKind : Int32} {v_t_faultPlace : Int32} {v_t_long1 : Int32} {v_t_next0 : Int32} {v_t_sort : Int32} {v_t_place : Int32} {v_t_long0 : Int32} {v_t_value : Int32} {v_t_sign : Int32} {v_t_word : Int64} {v_t_newSongs : Int32} {v_t_newPeople : Int32} {v_t_newForgetsAt : Int32} {v_t_newFillsAt : Int32} {v_t_top : Int32} {v_t_firstValue : Int32} {v_t_lastValue : Int32} {v_t_waiting : Int32} {v_t_depth : Int32} {v_t_acts : Int32} {v_t_isWinter : Int32} {v_t_learntNow : Int32} {v_t_forgottenNow : Int32} {v_t_heardMany : Int32} {v_t_its0 : Int32} {v_t_hasImage : Int32} {v_t_imageActs : Int32} {v_t_imageHeard : Int32} {r_t_readCode : Nat → Int32} {r_t_waits : Nat → Int32} {x1 : Int32} (hret : ∀ (H : Heap) (locs : List Loc) (pc : Nat) (ls : Array Slot), va_P E.1 vwCl (w_X12_drops E a_t a_t_readCode a_t_waits a_t_songLong a_t_firstNote a_t_wit a_t_code a_t_tape a_t_refused a_t_newSongLong a_t_newFirstNote a_t_newWit a_t_newRow a_t_tested a_t_isTold a_t_rows a_t_ahead a_t_told a_t_pile a_t_common a_t_mostOf a_t_likes a_t_heard a_t_soon a_t_soonAll a_t_imageRow a_t_imageAhead a_t_imageHears v_t_thrown v_t_songs v_t_people v_t_forgetsAt v_t_fillsAt v_t_taped v_t_faultKind v_t_faultPlace v_t_long1 v_t_next0 v_t_sort v_t_place v_t_long0 v_t_value v_t_sign v_t_word v_t_newSongs v_t_newPeople v_t_newForgetsAt v_t_newFillsAt o_t_top v_t_firstValue v_t_lastValue o_t_waiting v_t_depth v_t_acts v_t_isWinter v_t_learntNow v_t_forgottenNow v_t_heardMany v_t_its0 v_t_hasImage v_t_imageActs v_t_imageHeard o_t_readCode r_t_waits) H → va_S A s.heap H locs → decode cX12_drops pc = .ok (.return_, 1) → W p l e rm_X12_drops s m args below meth c H locs 0 0 Q (F0 m pc ls [])) (h : gs_it (fun _ _ _ => none) (f_X12_drops_0 x1 r_t_waits) gs_fuel v_t_top v_t_waiting r_t_readCode = some (o_t_top, o_t_waiting, o_t_readCode)) : S_X12_drops_0 p l e s m args below meth c Q a_t a_t_readCode a_t_waits a_t_songLong a_t_firstNote a_t_wit a_t_code a_t_tape a_t_refused a_t_newSongLong a_t_newFirstNote a_t_newWit a_t_newRow a_t_tested a_t_isTold a_t_rows a_t_ahead a_t_told a_t_pile a_t_common a_t_mostOf a_t_likes a_t_heard a_t_soon a_t_soonAll a_t_imageRow a_t_imageAhead a_t_imageHears E A v_t_thrown v_t_songs v_t_people v_t_forgetsAt v_t_fillsAt v_t_taped v_t_faultKind v_t_faultPlace v_t_long1 v_t_next0 v_t_sort v_t_place v_t_long0 v_t_value v_t_sign v_t_word v_t_newSongs v_t_newPeople v_t_newForgetsAt v_t_newFillsAt v_t_top v_t_firstValue v_t_lastValue v_t_waiting v_t_depth v_t_acts v_t_isWinter v_t_learntNow v_t_forgottenNow v_t_heardMany v_t_its0 v_t_hasImage v_t_imageActs v_t_imageHeard r_t_readCode r_t_waits x1 :=
  t_X12_drops_0_n X0 hk  hret  gs_fuel v_t_top v_t_waiting r_t_readCode h
def f_X12_drops (x1 : Int32) (v_t_top : Int32) (v_t_waiting : Int32) (r_t_readCode : Nat → Int32) (r_t_waits : Nat → Int32) : Option (Int32 × Int32 × (Nat → Int32)) :=
  gs_it (fun _ _ _ => none) (f_X12_drops_0 x1 r_t_waits) gs_fuel v_t_top v_t_waiting r_t_readCode
set_option maxHeartbeats 4000000 in
set_option maxRecDepth 100000 in
theorem c_X12_drops (l : Launch) (E : gs_E) (a_t a_t_readCode a_t_waits a_t_songLong a_t_firstNote a_t_wit a_t_code a_t_tape a_t_refused a_t_newSongLong a_t_newFirstNote a_t_newWit a_t_newRow a_t_tested a_t_isTold a_t_rows a_t_ahead a_t_told a_t_pile a_t_common a_t_mostOf a_t_likes a_t_heard a_t_soon a_t_soonAll a_t_imageRow a_t_imageAhead a_t_imageHears : Nat) (v_t_thrown : Int32) (v_t_songs : Int32) (v_t_people : Int32) (v_t_forgetsAt : Int32) (v_t_fillsAt : Int32) (v_t_taped : Int32) (v_t_faultKind : Int32) (v_t_faultPlace : Int32) (v_t_long1 : Int32) (v_t_next0 : Int32) (v_t_sort : Int32) (v_t_place : Int32) (v_t_long0 : Int32) (v_t_value : Int32) (v_t_sign : Int32) (v_t_word : Int64) (v_t_newSongs : Int32) (v_t_newPeople : Int32) (v_t_newForgetsAt : Int32) (v_t_newFillsAt : Int32) (v_t_top : Int32) (v_t_firstValue : Int32) (v_t_lastValue : Int32) (v_t_waiting : Int32) (v_t_depth : Int32) (v_t_acts : Int32) (v_t_isWinter : Int32) (v_t_learntNow : Int32) (v_t_forgottenNow : Int32) (v_t_heardMany : Int32) (v_t_its0 : Int32) (v_t_hasImage : Int32) (v_t_imageActs : Int32) (v_t_imageHeard : Int32) (r_t_readCode : Nat → Int32) (r_t_waits : Nat → Int32) (x1 : Int32) (o_t_top : Int32) (o_t_waiting : Int32) (o_t_readCode : Nat → Int32) (h : f_X12_drops x1 v_t_top v_t_waiting r_t_readCode r_t_waits = some (o_t_top, o_t_waiting, o_t_readCode)) : gs_MW l yX12_drops wsX12_drops rm_X12_drops [.ref a_t, .int x1] E (w_X12_drops E a_t a_t_readCode a_t_waits a_t_songLong a_t_firstNote a_t_wit a_t_code a_t_tape a_t_refused a_t_newSongLong a_t_newFirstNote a_t_newWit a_t_newRow a_t_tested a_t_isTold a_t_rows a_t_ahead a_t_told a_t_pile a_t_common a_t_mostOf a_t_likes a_t_heard a_t_soon a_t_soonAll a_t_imageRow a_t_imageAhead a_t_imageHears v_t_thrown v_t_songs v_t_people v_t_forgetsAt v_t_fillsAt v_t_taped v_t_faultKind v_t_faultPlace v_t_long1 v_t_next0 v_t_sort v_t_place v_t_long0 v_t_value v_t_sign v_t_word v_t_newSongs v_t_newPeople v_t_newForgetsAt v_t_newFillsAt v_t_top v_t_firstValue v_t_lastValue v_t_waiting v_t_depth v_t_acts v_t_isWinter v_t_learntNow v_t_forgottenNow v_t_heardMany v_t_its0 v_t_hasImage v_t_imageActs v_t_imageHeard r_t_readCode r_t_waits) (w_X12_drops E a_t a_t_readCode a_t_waits a_t_songLong a_t_firstNote a_t_wit a_t_code a_t_tape a_t_refused a_t_newSongLong a_t_newFirstNote a_t_newWit a_t_newRow a_t_tested a_t_isTold a_t_rows a_t_ahead a_t_told a_t_pile a_t_common a_t_mostOf a_t_likes a_t_heard a_t_soon a_t_soonAll a_t_imageRow a_t_imageAhead a_t_imageHears v_t_thrown v_t_songs v_t_people v_t_forgetsAt v_t_fillsAt v_t_taped v_t_faultKind v_t_faultPlace v_t_long1 v_t_next0 v_t_sort v_t_place v_t_long0 v_t_value v_t_sign v_t_word v_t_newSongs v_t_newPeople v_t_newForgetsAt v_t_newFillsAt o_t_top v_t_firstValue v_t_lastValue o_t_waiting v_t_depth v_t_acts v_t_isWinter v_t_learntNow v_t_forgottenNow v_t_heardMany v_t_its0 v_t_hasImage v_t_imageActs v_t_imageHeard o_t_readCode r_t_waits) none := by
  refine Met.ofW (cc := cX12_drops) (maxL := 2) (ret := none) (by decide) rfl ?_
  intro p e s m args below meth c s₁ B hml hv
  obtain ⟨rfl, hP, hk, hD0⟩ := hv
  have X0 : gs_X wsX12_drops cX12_drops RX12 2 none p s m ([.ref a_t, .int x1] : List Value).toArray meth c := gs_X.of B hml
  obtain ⟨hx, hb, -, hown, hts, hr, hlk⟩ := id X0
  have hD := (gs_D_self hD0)
  generalize hAe : gs_w (w_X12_drops E a_t a_t_readCode a_t_waits a_t_songLong a_t_firstNote a_t_wit a_t_code a_t_tape a_t_refused a_t_newSongLong a_t_newFirstNote a_t_newWit a_t_newRow a_t_tested a_t_isTold a_t_rows a_t_ahead a_t_told a_t_pile a_t_common a_t_mostOf a_t_likes a_t_heard a_t_soon a_t_soonAll a_t_imageRow a_t_imageAhead a_t_imageHears v_t_thrown v_t_songs v_t_people v_t_forgetsAt v_t_fillsAt v_t_taped v_t_faultKind v_t_faultPlace v_t_long1 v_t_next0 v_t_sort v_t_place v_t_long0 v_t_value v_t_sign v_t_word v_t_newSongs v_t_newPeople v_t_newForgetsAt v_t_newFillsAt v_t_top v_t_firstValue v_t_lastValue v_t_waiting v_t_depth v_t_acts v_t_isWinter v_t_learntNow v_t_forgottenNow v_t_heardMany v_t_its0 v_t_hasImage v_t_imageActs v_t_imageHeard r_t_readCode r_t_waits) = A at hD ⊢
  have hS : va_S A s.heap s.heap [] := va_S.rf
  have hret : ∀ (H : Heap) (locs : List Loc) (pc : Nat) (ls : Array Slot), va_P E.1 vwCl (w_X12_drops E a_t a_t_readCode a_t_waits a_t_songLong a_t_firstNote a_t_wit a_t_code a_t_tape a_t_refused a_t_newSongLong a_t_newFirstNote a_t_newWit a_t_newRow a_t_tested a_t_isTold a_t_rows a_t_ahead a_t_told a_t_pile a_t_common a_t_mostOf a_t_likes a_t_heard a_t_soon a_t_soonAll a_t_imageRow a_t_imageAhead a_t_imageHears v_t_thrown v_t_songs v_t_people v_t_forgetsAt v_t_fillsAt v_t_taped v_t_faultKind v_t_faultPlace v_t_long1 v_t_next0 v_t_sort v_t_place v_t_long0 v_t_value v_t_sign v_t_word v_t_newSongs v_t_newPeople v_t_newForgetsAt v_t_newFillsAt o_t_top v_t_firstValue v_t_lastValue o_t_waiting v_t_depth v_t_acts v_t_isWinter v_t_learntNow v_t_forgottenNow v_t_heardMany v_t_its0 v_t_hasImage v_t_imageActs v_t_imageHeard o_t_readCode r_t_waits) H → va_S A s.heap H locs → decode cX12_drops pc = .ok (.return_, 1) → W p l e rm_X12_drops s m ([.ref a_t, .int x1] : List Value).toArray below meth c H locs 0 0 (MQ below (gs_QWA E A (w_X12_drops E a_t a_t_readCode a_t_waits a_t_songLong a_t_firstNote a_t_wit a_t_code a_t_tape a_t_refused a_t_newSongLong a_t_newFirstNote a_t_newWit a_t_newRow a_t_tested a_t_isTold a_t_rows a_t_ahead a_t_told a_t_pile a_t_common a_t_mostOf a_t_likes a_t_heard a_t_soon a_t_soonAll a_t_imageRow a_t_imageAhead a_t_imageHears v_t_thrown v_t_songs v_t_people v_t_forgetsAt v_t_fillsAt v_t_taped v_t_faultKind v_t_faultPlace v_t_long1 v_t_next0 v_t_sort v_t_place v_t_long0 v_t_value v_t_sign v_t_word v_t_newSongs v_t_newPeople v_t_newForgetsAt v_t_newFillsAt o_t_top v_t_firstValue v_t_lastValue o_t_waiting v_t_depth v_t_acts v_t_isWinter v_t_learntNow v_t_forgottenNow v_t_heardMany v_t_its0 v_t_hasImage v_t_imageActs v_t_imageHeard o_t_readCode r_t_waits) none) ([.ref a_t, .int x1] : List Value).toArray s 0 0 A) (F0 m pc ls []) := fun H locs pc ls hP hS hd => W.vret hx hb hr (fun t ht hW => ⟨rfl, by rw [ht]; exact hP, hS.F ht⟩) hS.2.2 hd
  have hl := lv_entry ([.ref a_t, .int x1]) (n := 2) (Nat.le_of_ble_eq_true rfl)
  rw [lg_entry_eq]
  generalize (lg_sl ([.ref a_t, .int x1]) ++ List.replicate (2 - (lg_sl ([.ref a_t, .int x1])).length) Slot.unset).toArray = ls at hl ⊢
  have hl : lv_has ls 2 [(0, .ref a_t), (1, .int x1)] := hl
  unfold f_X12_drops at h
  exact t_X12_drops_0 X0 hk  hret  (h := h) _ _ _ hP hD hS (lv_sub hl [0, 1] rfl)

theorem dX12_waitsFor_0 : decode cX12_waitsFor 0 = .ok (.aload_n 0, 1) := by decide +kernel
theorem dX12_waitsFor_1 : decode cX12_waitsFor 1 = .ok (.getfield 53, 3) := by decide +kernel
theorem dX12_waitsFor_4 : decode cX12_waitsFor 4 = .ok (.aload_n 0, 1) := by decide +kernel
theorem dX12_waitsFor_5 : decode cX12_waitsFor 5 = .ok (.getfield 174, 3) := by decide +kernel
theorem dX12_waitsFor_8 : decode cX12_waitsFor 8 = .ok (.iload_n 1, 1) := by decide +kernel
theorem dX12_waitsFor_9 : decode cX12_waitsFor 9 = .ok (.iastore, 1) := by decide +kernel
theorem dX12_waitsFor_10 : decode cX12_waitsFor 10 = .ok (.aload_n 0, 1) := by decide +kernel
theorem dX12_waitsFor_11 : decode cX12_waitsFor 11 = .ok (.dup, 1) := by decide +kernel
theorem dX12_waitsFor_12 : decode cX12_waitsFor 12 = .ok (.getfield 174, 3) := by decide +kernel
theorem dX12_waitsFor_15 : decode cX12_waitsFor 15 = .ok (.iconst 1, 1) := by decide +kernel
theorem dX12_waitsFor_16 : decode cX12_waitsFor 16 = .ok (.iadd, 1) := by decide +kernel
theorem dX12_waitsFor_17 : decode cX12_waitsFor 17 = .ok (.putfield 174, 3) := by decide +kernel
theorem dX12_waitsFor_20 : decode cX12_waitsFor 20 = .ok (.return_, 1) := by decide +kernel
abbrev w_X12_waitsFor (E : gs_E) (a_t a_t_waits a_t_songLong a_t_firstNote a_t_wit a_t_code a_t_tape a_t_refused a_t_newSongLong a_t_newFirstNote a_t_newWit a_t_newRow a_t_readCode a_t_tested a_t_isTold a_t_rows a_t_ahead a_t_told a_t_pile a_t_common a_t_mostOf a_t_likes a_t_heard a_t_soon a_t_soonAll a_t_imageRow a_t_imageAhead a_t_imageHears : Nat) (v_t_thrown : Int32) (v_t_songs : Int32) (v_t_people : Int32) (v_t_forgetsAt : Int32) (v_t_fillsAt : Int32) (v_t_taped : Int32) (v_t_faultKind : Int32) (v_t_faultPlace : Int32) (v_t_long1 : Int32) (v_t_next0 : Int32) (v_t_sort : Int32) (v_t_place : Int32) (v_t_long0 : Int32) (v_t_value : Int32) (v_t_sign : Int32) (v_t_word : Int64) (v_t_newSongs : Int32) (v_t_newPeople : Int32) (v_t_newForgetsAt : Int32) (v_t_newFillsAt : Int32) (v_t_top : Int32) (v_t_firstValue : Int32) (v_t_lastValue : Int32) (v_t_waiting : Int32) (v_t_depth : Int32) (v_t_acts : Int32) (v_t_isWinter : Int32) (v_t_learntNow : Int32) (v_t_forgottenNow : Int32) (v_t_heardMany : Int32) (v_t_its0 : Int32) (v_t_hasImage : Int32) (v_t_imageActs : Int32) (v_t_imageHeard : Int32) (r_t_waits : Nat → Int32) : va_W := [(a_t, .inr (12, [.int v_t_thrown, .int v_t_songs, .int v_t_people, .int v_t_forgetsAt, .int v_t_fillsAt, .ref a_t_songLong, .ref a_t_firstNote, .ref a_t_wit, .ref a_t_code, .ref a_t_tape, .int v_t_taped, .int v_t_faultKind, .int v_t_faultPlace, .ref a_t_refused, .int v_t_long1, .int v_t_next0, .int v_t_sort, .int v_t_place, .int v_t_long0, .int v_t_value, .int v_t_sign, .long v_t_word, .int v_t_newSongs, .int v_t_newPeople, .int v_t_newForgetsAt, .int v_t_newFillsAt, .int v_t_top, .int v_t_firstValue, .int v_t_lastValue, .int v_t_waiting, .int v_t_depth, .ref a_t_newSongLong, .ref a_t_newFirstNote, .ref a_t_newWit, .ref a_t_newRow, .ref a_t_readCode, .ref a_t_waits, .ref a_t_tested, .ref a_t_isTold, .ref a_t_rows, .ref a_t_ahead, .int v_t_acts, .ref a_t_told, .ref a_t_pile, .int v_t_isWinter, .int v_t_learntNow, .int v_t_forgottenNow, .ref a_t_common, .ref a_t_mostOf, .ref a_t_likes, .int v_t_heardMany, .ref a_t_heard, .ref a_t_soon, .ref a_t_soonAll, .int v_t_its0, .int v_t_hasImage, .int v_t_imageActs, .int v_t_imageHeard, .ref a_t_imageRow, .ref a_t_imageAhead, .ref a_t_imageHears])), (a_t_waits, .inl (E.2.1, 950, .inl r_t_waits))]
abbrev rm_X12_waitsFor : Room := { frames := 0, cells := 0, slots := 0, locals := 0 }
def f_X12_waitsFor (x1 : Int32) (v_t_waiting : Int32) (r_t_waits : Nat → Int32) : Option (Int32 × (Nat → Int32)) :=
  gs_gd (gs_in v_t_waiting 950) <|
  some (v_t_waiting + 1, upd r_t_waits v_t_waiting.toNatClampNeg x1)
set_option maxHeartbeats 4000000 in
set_option maxRecDepth 100000 in
theorem c_X12_waitsFor (l : Launch) (E : gs_E) (a_t a_t_waits a_t_songLong a_t_firstNote a_t_wit a_t_code a_t_tape a_t_refused a_t_newSongLong a_t_newFirstNote a_t_newWit a_t_newRow a_t_readCode a_t_tested a_t_isTold a_t_rows a_t_ahead a_t_told a_t_pile a_t_common a_t_mostOf a_t_likes a_t_heard a_t_soon a_t_soonAll a_t_imageRow a_t_imageAhead a_t_imageHears : Nat) (v_t_thrown : Int32) (v_t_songs : Int32) (v_t_people : Int32) (v_t_forgetsAt : Int32) (v_t_fillsAt : Int32) (v_t_taped : Int32) (v_t_faultKind : Int32) (v_t_faultPlace : Int32) (v_t_long1 : Int32) (v_t_next0 : Int32) (v_t_sort : Int32) (v_t_place : Int32) (v_t_long0 : Int32) (v_t_value : Int32) (v_t_sign : Int32) (v_t_word : Int64) (v_t_newSongs : Int32) (v_t_newPeople : Int32) (v_t_newForgetsAt : Int32) (v_t_newFillsAt : Int32) (v_t_top : Int32) (v_t_firstValue : Int32) (v_t_lastValue : Int32) (v_t_waiting : Int32) (v_t_depth : Int32) (v_t_acts : Int32) (v_t_isWinter : Int32) (v_t_learntNow : Int32) (v_t_forgottenNow : Int32) (v_t_heardMany : Int32) (v_t_its0 : Int32) (v_t_hasImage : Int32) (v_t_imageActs : Int32) (v_t_imageHeard : Int32) (r_t_waits : Nat → Int32) (x1 : Int32) (o_t_waiting : Int32) (o_t_waits : Nat → Int32) (h : f_X12_waitsFor x1 v_t_waiting r_t_waits = some (o_t_waiting, o_t_waits)) : gs_MW l yX12_waitsFor wsX12_waitsFor rm_X12_waitsFor [.ref a_t, .int x1] E (w_X12_waitsFor E a_t a_t_waits a_t_songLong a_t_firstNote a_t_wit a_t_code a_t_tape a_t_refused a_t_newSongLong a_t_newFirstNote a_t_newWit a_t_newRow a_t_readCode a_t_tested a_t_isTold a_t_rows a_t_ahead a_t_told a_t_pile a_t_common a_t_mostOf a_t_likes a_t_heard a_t_soon a_t_soonAll a_t_imageRow a_t_imageAhead a_t_imageHears v_t_thrown v_t_songs v_t_people v_t_forgetsAt v_t_fillsAt v_t_taped v_t_faultKind v_t_faultPlace v_t_long1 v_t_next0 v_t_sort v_t_place v_t_long0 v_t_value v_t_sign v_t_word v_t_newSongs v_t_newPeople v_t_newForgetsAt v_t_newFillsAt v_t_top v_t_firstValue v_t_lastValue v_t_waiting v_t_depth v_t_acts v_t_isWinter v_t_learntNow v_t_forgottenNow v_t_heardMany v_t_its0 v_t_hasImage v_t_imageActs v_t_imageHeard r_t_waits) (w_X12_waitsFor E a_t a_t_waits a_t_songLong a_t_firstNote a_t_wit a_t_code a_t_tape a_t_refused a_t_newSongLong a_t_newFirstNote a_t_newWit a_t_newRow a_t_readCode a_t_tested a_t_isTold a_t_rows a_t_ahead a_t_told a_t_pile a_t_common a_t_mostOf a_t_likes a_t_heard a_t_soon a_t_soonAll a_t_imageRow a_t_imageAhead a_t_imageHears v_t_thrown v_t_songs v_t_people v_t_forgetsAt v_t_fillsAt v_t_taped v_t_faultKind v_t_faultPlace v_t_long1 v_t_next0 v_t_sort v_t_place v_t_long0 v_t_value v_t_sign v_t_word v_t_newSongs v_t_newPeople v_t_newForgetsAt v_t_newFillsAt v_t_top v_t_firstValue v_t_lastValue o_t_waiting v_t_depth v_t_acts v_t_isWinter v_t_learntNow v_t_forgottenNow v_t_heardMany v_t_its0 v_t_hasImage v_t_imageActs v_t_imageHeard o_t_waits) none := by
  refine Met.ofW (cc := cX12_waitsFor) (maxL := 2) (ret := none) (by decide) rfl ?_
  intro p e s m args below meth c s₁ B hml hv
  obtain ⟨rfl, hP, hk, hD0⟩ := hv
  have X0 : gs_X wsX12_waitsFor cX12_waitsFor RX12 2 none p s m ([.ref a_t, .int x1] : List Value).toArray meth c := gs_X.of B hml
  obtain ⟨hx, hb, -, hown, hts, hr, hlk⟩ := id X0
  have hD := (gs_D_self hD0)
  generalize hAe : gs_w (w_X12_waitsFor E a_t a_t_waits a_t_songLong a_t_firstNote a_t_wit a_t_code a_t_tape a_t_refused a_t_newSongLong a_t_newFirstNote a_t_newWit a_t_newRow a_t_readCode a_t_tested a_t_isTold a_t_rows a_t_ahead a_t_told a_t_pile a_t_common a_t_mostOf a_t_likes a_t_heard a_t_soon a_t_soonAll a_t_imageRow a_t_imageAhead a_t_imageHears v_t_thrown v_t_songs v_t_people v_t_forgetsAt v_t_fillsAt v_t_taped v_t_faultKind v_t_faultPlace v_t_long1 v_t_next0 v_t_sort v_t_place v_t_long0 v_t_value v_t_sign v_t_word v_t_newSongs v_t_newPeople v_t_newForgetsAt v_t_newFillsAt v_t_top v_t_firstValue v_t_lastValue v_t_waiting v_t_depth v_t_acts v_t_isWinter v_t_learntNow v_t_forgottenNow v_t_heardMany v_t_its0 v_t_hasImage v_t_imageActs v_t_imageHeard r_t_waits) = A at hD ⊢
  have hS : va_S A s.heap s.heap [] := va_S.rf
  have hret : ∀ (H : Heap) (locs : List Loc) (pc : Nat) (ls : Array Slot), va_P E.1 vwCl (w_X12_waitsFor E a_t a_t_waits a_t_songLong a_t_firstNote a_t_wit a_t_code a_t_tape a_t_refused a_t_newSongLong a_t_newFirstNote a_t_newWit a_t_newRow a_t_readCode a_t_tested a_t_isTold a_t_rows a_t_ahead a_t_told a_t_pile a_t_common a_t_mostOf a_t_likes a_t_heard a_t_soon a_t_soonAll a_t_imageRow a_t_imageAhead a_t_imageHears v_t_thrown v_t_songs v_t_people v_t_forgetsAt v_t_fillsAt v_t_taped v_t_faultKind v_t_faultPlace v_t_long1 v_t_next0 v_t_sort v_t_place v_t_long0 v_t_value v_t_sign v_t_word v_t_newSongs v_t_newPeople v_t_newForgetsAt v_t_newFillsAt v_t_top v_t_firstValue v_t_lastValue o_t_waiting v_t_depth v_t_acts v_t_isWinter v_t_learntNow v_t_forgottenNow v_t_heardMany v_t_its0 v_t_hasImage v_t_imageActs v_t_imageHeard o_t_waits) H → va_S A s.heap H locs → decode cX12_waitsFor pc = .ok (.return_, 1) → W p l e rm_X12_waitsFor s m ([.ref a_t, .int x1] : List Value).toArray below meth c H locs 0 0 (MQ below (gs_QWA E A (w_X12_waitsFor E a_t a_t_waits a_t_songLong a_t_firstNote a_t_wit a_t_code a_t_tape a_t_refused a_t_newSongLong a_t_newFirstNote a_t_newWit a_t_newRow a_t_readCode a_t_tested a_t_isTold a_t_rows a_t_ahead a_t_told a_t_pile a_t_common a_t_mostOf a_t_likes a_t_heard a_t_soon a_t_soonAll a_t_imageRow a_t_imageAhead a_t_imageHears v_t_thrown v_t_songs v_t_people v_t_forgetsAt v_t_fillsAt v_t_taped v_t_faultKind v_t_faultPlace v_t_long1 v_t_next0 v_t_sort v_t_place v_t_long0 v_t_value v_t_sign v_t_word v_t_newSongs v_t_newPeople v_t_newForgetsAt v_t_newFillsAt v_t_top v_t_firstValue v_t_lastValue o_t_waiting v_t_depth v_t_acts v_t_isWinter v_t_learntNow v_t_forgottenNow v_t_heardMany v_t_its0 v_t_hasImage v_t_imageActs v_t_imageHeard o_t_waits) none) ([.ref a_t, .int x1] : List Value).toArray s 0 0 A) (F0 m pc ls []) := fun H locs pc ls hP hS hd => W.vret hx hb hr (fun t ht hW => ⟨rfl, by rw [ht]; exact hP, hS.F ht⟩) hS.2.2 hd
  have hl := lv_entry ([.ref a_t, .int x1]) (n := 2) (Nat.le_of_ble_eq_true rfl)
  rw [lg_entry_eq]
  generalize (lg_sl ([.ref a_t, .int x1]) ++ List.replicate (2 - (lg_sl ([.ref a_t, .int x1])).length) Slot.unset).toArray = ls at hl ⊢
  have hl : lv_has ls 2 [(0, .ref a_t), (1, .int x1)] := hl
  unfold f_X12_waitsFor at h
  refine lv_aload_n hx hb dX12_waitsFor_0 rfl (lv_at hl 0 rfl) ?_
  refine va_get (D := E.1) (ci := 12) (v := .ref a_t_waits) (C := RX12) (T := TX12) (N := 61) hx hb hts (fun _ h => (List.mem_cons_of_mem _ (List.mem_append_right _ h))) hown hk.1 hP 0 rfl rfl 36 (by decide) (hts (.fieldLink RX12 53 "GapSongsModel" "waits" "[I") (List.mem_cons_of_mem _ (List.mem_append_left _ (List.mem_of_getElem? (i := 0) rfl)))) (fun _ h9 => h9) rfl dX12_waitsFor_1 ?_
  refine lv_aload_n hx hb dX12_waitsFor_4 rfl (lv_at hl 0 rfl) ?_
  refine va_get (D := E.1) (ci := 12) (v := .int v_t_waiting) (C := RX12) (T := TX12) (N := 61) hx hb hts (fun _ h => (List.mem_cons_of_mem _ (List.mem_append_right _ h))) hown hk.1 hP 0 rfl rfl 29 (by decide) (hts (.fieldLink RX12 174 "GapSongsModel" "waiting" "I") (List.mem_cons_of_mem _ (List.mem_append_left _ (List.mem_of_getElem? (i := 1) rfl)))) (fun _ h9 => h9) rfl dX12_waitsFor_5 ?_
  refine lv_iload_n hx hb dX12_waitsFor_8 rfl (lv_at hl 1 rfl) ?_
  obtain ⟨g1, h⟩ := gs_gd_e h
  refine va_iast hx hb hk.1 hP hD hS 1 0 rfl rfl (gs_in_e g1) dX12_waitsFor_9 (fun H locs hP hD hS => ?_)
  have hP : va_P E.1 vwCl (w_X12_waitsFor E a_t a_t_waits a_t_songLong a_t_firstNote a_t_wit a_t_code a_t_tape a_t_refused a_t_newSongLong a_t_newFirstNote a_t_newWit a_t_newRow a_t_readCode a_t_tested a_t_isTold a_t_rows a_t_ahead a_t_told a_t_pile a_t_common a_t_mostOf a_t_likes a_t_heard a_t_soon a_t_soonAll a_t_imageRow a_t_imageAhead a_t_imageHears v_t_thrown v_t_songs v_t_people v_t_forgetsAt v_t_fillsAt v_t_taped v_t_faultKind v_t_faultPlace v_t_long1 v_t_next0 v_t_sort v_t_place v_t_long0 v_t_value v_t_sign v_t_word v_t_newSongs v_t_newPeople v_t_newForgetsAt v_t_newFillsAt v_t_top v_t_firstValue v_t_lastValue v_t_waiting v_t_depth v_t_acts v_t_isWinter v_t_learntNow v_t_forgottenNow v_t_heardMany v_t_its0 v_t_hasImage v_t_imageActs v_t_imageHeard (upd r_t_waits v_t_waiting.toNatClampNeg x1)) H := hP
  have hD : va_D A (w_X12_waitsFor E a_t a_t_waits a_t_songLong a_t_firstNote a_t_wit a_t_code a_t_tape a_t_refused a_t_newSongLong a_t_newFirstNote a_t_newWit a_t_newRow a_t_readCode a_t_tested a_t_isTold a_t_rows a_t_ahead a_t_told a_t_pile a_t_common a_t_mostOf a_t_likes a_t_heard a_t_soon a_t_soonAll a_t_imageRow a_t_imageAhead a_t_imageHears v_t_thrown v_t_songs v_t_people v_t_forgetsAt v_t_fillsAt v_t_taped v_t_faultKind v_t_faultPlace v_t_long1 v_t_next0 v_t_sort v_t_place v_t_long0 v_t_value v_t_sign v_t_word v_t_newSongs v_t_newPeople v_t_newForgetsAt v_t_newFillsAt v_t_top v_t_firstValue v_t_lastValue v_t_waiting v_t_depth v_t_acts v_t_isWinter v_t_learntNow v_t_forgottenNow v_t_heardMany v_t_its0 v_t_hasImage v_t_imageActs v_t_imageHeard (upd r_t_waits v_t_waiting.toNatClampNeg x1)) := hD
  refine lv_aload_n hx hb dX12_waitsFor_10 rfl (lv_at hl 0 rfl) ?_
  refine lv_dup hx hb dX12_waitsFor_11 rfl ?_
  refine va_get (D := E.1) (ci := 12) (v := .int v_t_waiting) (C := RX12) (T := TX12) (N := 61) hx hb hts (fun _ h => (List.mem_cons_of_mem _ (List.mem_append_right _ h))) hown hk.1 hP 0 rfl rfl 29 (by decide) (hts (.fieldLink RX12 174 "GapSongsModel" "waiting" "I") (List.mem_cons_of_mem _ (List.mem_append_left _ (List.mem_of_getElem? (i := 1) rfl)))) (fun _ h9 => h9) rfl dX12_waitsFor_12 ?_
  refine lv_iconst (v := 1) hx hb dX12_waitsFor_15 (by decide) ?_
  refine lv_iadd hx hb dX12_waitsFor_16 ?_
  refine va_put (D := E.1) (ci := 12) (v := .int (v_t_waiting + 1)) (ty := .int) (C := RX12) (T := TX12) (N := 61) hx hb hts (fun _ h => (List.mem_cons_of_mem _ (List.mem_append_right _ h))) tyX12 tyX12_ok nmX12 hown hk.1 hP hD hS 0 rfl rfl 29 (by decide) (hts (.fieldLink RX12 174 "GapSongsModel" "waiting" "I") (List.mem_cons_of_mem _ (List.mem_append_left _ (List.mem_of_getElem? (i := 1) rfl)))) (fun _ h9 => h9) rfl (by decide +kernel) rfl rfl (Nat.le_of_ble_eq_true rfl) dX12_waitsFor_17 (fun H locs hP hD hS => ?_)
  have hP : va_P E.1 vwCl (w_X12_waitsFor E a_t a_t_waits a_t_songLong a_t_firstNote a_t_wit a_t_code a_t_tape a_t_refused a_t_newSongLong a_t_newFirstNote a_t_newWit a_t_newRow a_t_readCode a_t_tested a_t_isTold a_t_rows a_t_ahead a_t_told a_t_pile a_t_common a_t_mostOf a_t_likes a_t_heard a_t_soon a_t_soonAll a_t_imageRow a_t_imageAhead a_t_imageHears v_t_thrown v_t_songs v_t_people v_t_forgetsAt v_t_fillsAt v_t_taped v_t_faultKind v_t_faultPlace v_t_long1 v_t_next0 v_t_sort v_t_place v_t_long0 v_t_value v_t_sign v_t_word v_t_newSongs v_t_newPeople v_t_newForgetsAt v_t_newFillsAt v_t_top v_t_firstValue v_t_lastValue (v_t_waiting + 1) v_t_depth v_t_acts v_t_isWinter v_t_learntNow v_t_forgottenNow v_t_heardMany v_t_its0 v_t_hasImage v_t_imageActs v_t_imageHeard (upd r_t_waits v_t_waiting.toNatClampNeg x1)) H := hP
  have hD : va_D A (w_X12_waitsFor E a_t a_t_waits a_t_songLong a_t_firstNote a_t_wit a_t_code a_t_tape a_t_refused a_t_newSongLong a_t_newFirstNote a_t_newWit a_t_newRow a_t_readCode a_t_tested a_t_isTold a_t_rows a_t_ahead a_t_told a_t_pile a_t_common a_t_mostOf a_t_likes a_t_heard a_t_soon a_t_soonAll a_t_imageRow a_t_imageAhead a_t_imageHears v_t_thrown v_t_songs v_t_people v_t_forgetsAt v_t_fillsAt v_t_taped v_t_faultKind v_t_faultPlace v_t_long1 v_t_next0 v_t_sort v_t_place v_t_long0 v_t_value v_t_sign v_t_word v_t_newSongs v_t_newPeople v_t_newForgetsAt v_t_newFillsAt v_t_top v_t_firstValue v_t_lastValue (v_t_waiting + 1) v_t_depth v_t_acts v_t_isWinter v_t_learntNow v_t_forgottenNow v_t_heardMany v_t_its0 v_t_hasImage v_t_imageActs v_t_imageHeard (upd r_t_waits v_t_waiting.toNatClampNeg x1)) := hD
  have h := Option.some.inj h
  obtain ⟨w0, h⟩ := Prod.mk.inj h
  subst h
  subst w0
  exact hret _ _ _ _ hP hS dX12_waitsFor_20
