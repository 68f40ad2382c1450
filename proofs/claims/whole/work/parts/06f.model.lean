set_option maxRecDepth 100000 in
theorem ggX12_isPerson_X12_right : GoodIn wsX12_isPerson wsX12_right := goodIn_r _ [6, 7, 8, 9, 10, 11, 12, 13, 14, 15, 16, 17, 18, 19, 20, 21, 22, 23, 24, 25, 26, 27, 28, 29, 30, 31, 32, 33, 34, 35, 36, 37, 38, 39, 40, 41, 42, 43, 44, 45, 46, 47, 48, 49, 50, 51, 52, 53, 54, 55, 56, 57, 58, 59, 60, 61, 62, 63, 64, 65, 66, 67, 68] rfl (by decide +kernel)
set_option maxRecDepth 100000 in
theorem gX12_isPerson_X12_right : GoodIn wsX12_isPerson (wsV RX12 266 RX12 yX12_right wsX12_right) := goodIn_app (goodIn_of _ (by decide +kernel)) ggX12_isPerson_X12_right
theorem dX12_isPerson_0 : decode cX12_isPerson 0 = .ok (.aload_n 0, 1) := by decide +kernel
theorem dX12_isPerson_1 : decode cX12_isPerson 1 = .ok (.iload_n 1, 1) := by decide +kernel
theorem dX12_isPerson_2 : decode cX12_isPerson 2 = .ok (.ifCond .lt 15, 3) := by decide +kernel
theorem dX12_isPerson_5 : decode cX12_isPerson 5 = .ok (.iload_n 1, 1) := by decide +kernel
theorem dX12_isPerson_6 : decode cX12_isPerson 6 = .ok (.aload_n 0, 1) := by decide +kernel
theorem dX12_isPerson_7 : decode cX12_isPerson 7 = .ok (.getfield 276, 3) := by decide +kernel
theorem dX12_isPerson_10 : decode cX12_isPerson 10 = .ok (.if_icmp .ge 7, 3) := by decide +kernel
theorem dX12_isPerson_13 : decode cX12_isPerson 13 = .ok (.iconst 1, 1) := by decide +kernel
theorem dX12_isPerson_14 : decode cX12_isPerson 14 = .ok (.goto 4, 3) := by decide +kernel
theorem dX12_isPerson_17 : decode cX12_isPerson 17 = .ok (.iconst 0, 1) := by decide +kernel
theorem dX12_isPerson_18 : decode cX12_isPerson 18 = .ok (.iconst 1, 1) := by decide +kernel
theorem dX12_isPerson_19 : decode cX12_isPerson 19 = .ok (.invokevirtual 266, 3) := by decide +kernel
theorem dX12_isPerson_22 : decode cX12_isPerson 22 = .ok (.ireturn, 1) := by decide +kernel
abbrev w_X12_isPerson (E : gs_E) (a_t a_t_songLong a_t_firstNote a_t_wit a_t_code a_t_tape a_t_refused a_t_newSongLong a_t_newFirstNote a_t_newWit a_t_newRow a_t_readCode a_t_waits a_t_tested a_t_isTold a_t_rows a_t_ahead a_t_told a_t_pile a_t_common a_t_mostOf a_t_likes a_t_heard a_t_soon a_t_soonAll a_t_imageRow a_t_imageAhead a_t_imageHears : Nat) (v_t_thrown : Int32) (v_t_songs : Int32) (v_t_people : Int32) (v_t_forgetsAt : Int32) (v_t_fillsAt : Int32) (v_t_taped : Int32) (v_t_faultKind : Int32) (v_t_faultPlace : Int32) (v_t_long1 : Int32) (v_t_next0 : Int32) (v_t_sort : Int32) (v_t_place : Int32) (v_t_long0 : Int32) (v_t_value : Int32) (v_t_sign : Int32) (v_t_word : Int64) (v_t_newSongs : Int32) (v_t_newPeople : Int32) (v_t_newForgetsAt : Int32) (v_t_newFillsAt : Int32) (v_t_top : Int32) (v_t_firstValue : Int32) (v_t_lastValue : Int32) (v_t_waiting : Int32) (v_t_depth : Int32) (v_t_acts : Int32) (v_t_isWinter : Int32) (v_t_learntNow : Int32) (v_t_forgottenNow : Int32) (v_t_heardMany : Int32) (v_t_its0 : Int32) (v_t_hasImage : Int32) (v_t_imageActs : Int32) (v_t_imageHeard : Int32) : va_W := [(a_t, .inr (12, [.int v_t_thrown, .int v_t_songs, .int v_t_people, .int v_t_forgetsAt, .int v_t_fillsAt, .ref a_t_songLong, .ref a_t_firstNote, .ref a_t_wit, .ref a_t_code, .ref a_t_tape, .int v_t_taped, .int v_t_faultKind, .int v_t_faultPlace, .ref a_t_refused, .int v_t_long1, .int v_t_next0, .int v_t_sort, .int v_t_place, .int v_t_long0, .int v_t_value, .int v_t_sign, .long v_t_word, .int v_t_newSongs, .int v_t_newPeople, .int v_t_newForgetsAt, .int v_t_newFillsAt, .int v_t_top, .int v_t_firstValue, .int v_t_lastValue, .int v_t_waiting, .int v_t_depth, .ref a_t_newSongLong, .ref a_t_newFirstNote, .ref a_t_newWit, .ref a_t_newRow, .ref a_t_readCode, .ref a_t_waits, .ref a_t_tested, .ref a_t_isTold, .ref a_t_rows, .ref a_t_ahead, .int v_t_acts, .ref a_t_told, .ref a_t_pile, .int v_t_isWinter, .int v_t_learntNow, .int v_t_forgottenNow, .ref a_t_common, .ref a_t_mostOf, .ref a_t_likes, .int v_t_heardMany, .ref a_t_heard, .ref a_t_soon, .ref a_t_soonAll, .int v_t_its0, .int v_t_hasImage, .int v_t_imageActs, .int v_t_imageHeard, .ref a_t_imageRow, .ref a_t_imageAhead, .ref a_t_imageHears]))]
abbrev rm_X12_isPerson : Room := { frames := 1, cells := 0, slots := 0, locals := 22 }
def S_X12_isPerson_18 (p : Program) (l : Launch) (e : Env) (s : State) (m : MethodId) (args : Array Value) (below : List Frame) (meth : Method) (c : Code) (Q : State → Prop) (a_t a_t_songLong a_t_firstNote a_t_wit a_t_code a_t_tape a_t_refused a_t_newSongLong a_t_newFirstNote a_t_newWit a_t_newRow a_t_readCode a_t_waits a_t_tested a_t_isTold a_t_rows a_t_ahead a_t_told a_t_pile a_t_common a_t_mostOf a_t_likes a_t_heard a_t_soon a_t_soonAll a_t_imageRow a_t_imageAhead a_t_imageHears : Nat) (E : gs_E) (A : Nat → Prop) (v_t_thrown : Int32) (v_t_songs : Int32) (v_t_people : Int32) (v_t_forgetsAt : Int32) (v_t_fillsAt : Int32) (v_t_taped : Int32) (v_t_faultKind : Int32) (v_t_faultPlace : Int32) (v_t_long1 : Int32) (v_t_next0 : Int32) (v_t_sort : Int32) (v_t_place : Int32) (v_t_long0 : Int32) (v_t_value : Int32) (v_t_sign : Int32) (v_t_word : Int64) (v_t_newSongs : Int32) (v_t_newPeople : Int32) (v_t_newForgetsAt : Int32) (v_t_newFillsAt : Int32) (v_t_top : Int32) (v_t_firstValue : Int32) (v_t_lastValue : Int32) (v_t_waiting : Int32) (v_t_depth : Int32) (v_t_acts : Int32) (v_t_isWinter : Int32) (v_t_learntNow : Int32) (v_t_forgottenNow : Int32) (v_t_heardMany : Int32) (v_t_its0 : Int32) (v_t_hasImage : Int32) (v_t_imageActs : Int32) (v_t_imageHeard : Int32) (k1 : Int32) : Prop := ∀ (H : Heap) (locs : List Loc) (ls : Array Slot), va_P E.1 vwCl (w_X12_isPerson E a_t a_t_songLong a_t_firstNote a_t_wit a_t_code a_t_tape a_t_refused a_t_newSongLong a_t_newFirstNote a_t_newWit a_t_newRow a_t_readCode a_t_waits a_t_tested a_t_isTold a_t_rows a_t_ahead a_t_told a_t_pile a_t_common a_t_mostOf a_t_likes a_t_heard a_t_soon a_t_soonAll a_t_imageRow a_t_imageAhead a_t_imageHears v_t_thrown v_t_songs v_t_people v_t_forgetsAt v_t_fillsAt v_t_taped v_t_faultKind v_t_faultPlace v_t_long1 v_t_next0 v_t_sort v_t_place v_t_long0 v_t_value v_t_sign v_t_word v_t_newSongs v_t_newPeople v_t_newForgetsAt v_t_newFillsAt v_t_top v_t_firstValue v_t_lastValue v_t_waiting v_t_depth v_t_acts v_t_isWinter v_t_learntNow v_t_forgottenNow v_t_heardMany v_t_its0 v_t_hasImage v_t_imageActs v_t_imageHeard) H → va_D A (w_X12_isPerson E a_t a_t_songLong a_t_firstNote a_t_wit a_t_code a_t_tape a_t_refused a_t_newSongLong a_t_newFirstNote a_t_newWit a_t_newRow a_t_readCode a_t_waits a_t_tested a_t_isTold a_t_rows a_t_ahead a_t_told a_t_pile a_t_common a_t_mostOf a_t_likes a_t_heard a_t_soon a_t_soonAll a_t_imageRow a_t_imageAhead a_t_imageHears v_t_thrown v_t_songs v_t_people v_t_forgetsAt v_t_fillsAt v_t_taped v_t_faultKind v_t_faultPlace v_t_long1 v_t_next0 v_t_sort v_t_place v_t_long0 v_t_value v_t_sign v_t_word v_t_newSongs v_t_newPeople v_t_newForgetsAt v_t_newFillsAt v_t_top v_t_firstValue v_t_lastValue v_t_waiting v_t_depth v_t_acts v_t_isWinter v_t_learntNow v_t_forgottenNow v_t_heardMany v_t_its0 v_t_hasImage v_t_imageActs v_t_imageHeard) → va_S A s.heap H locs → lv_has ls 2 [] → W p l e rm_X12_isPerson s m args below meth c H locs 0 0 Q (F0 m 18 ls [.int k1, .ref a_t])
def f_X12_isPerson_18 (k1 : Int32) (v_t_thrown : Int32) : Option (Int32 × Int32) :=
  gs_b2 (f_X12_right k1 1 v_t_thrown) fun r2 o2_0 =>
  gs_gd (gs_bz r2) <|
  some (r2, o2_0)
set_option maxHeartbeats 4000000 in
set_option maxRecDepth 100000 in
theorem t_X12_isPerson_18 {p : Program} {l : Launch} {e : Env} {s : State} {m : MethodId} {args : Array Value} {below : List Frame} {meth : Method} {c : Code} {Q : State → Prop} {E : gs_E} {A : Nat → Prop} {a_t a_t_songLong a_t_firstNote a_t_wit a_t_code a_t_tape a_t_refused a_t_newSongLong a_t_newFirstNote a_t_newWit a_t_newRow a_t_readCode a_t_waits a_t_tested a_t_isTold a_t_rows a_t_ahead a_t_told a_t_pile a_t_common a_t_mostOf a_t_likes a_t_heard a_t_soon a_t_soonAll a_t_imageRow a_t_imageAhead a_t_imageHears : Nat} {rr : Int32} {o_t_thrown : Int32} (X0 : gs_X wsX12_isPerson cX12_isPerson RX12 2 (some .boolean) p s m args meth c) (hk : gs_K E s) {v_t_thrown : Int32} {v_t_songs : Int32} {v_t_people : Int32} {v_t_forgetsAt : Int32} {v_t_fillsAt : Int32} {v_t_taped : Int32} {v_t_faultKind : Int32} {v_t_faultPlace : Int32} {v_t_long1 : Int32} {v_t_next0 : Int32} {v_t_sort : Int32} {v_t_place : Int32} {v_t_long0 : Int32} {v_t_value : Int32} {v_t_sign : Int32} {v_t_word : Int64} {v_t_newSongs : Int32} {v_t_newPeople : Int32} {v_t_newForgetsAt : Int32} {v_t_newFillsAt : Int32} {v_t_top : Int32} {v_t_firstValue : Int32} {v_t_lastValue : Int32} {v_t_waiting : Int32} {v_t_depth : Int32} {v_t_acts : Int32} {v_t_isWinter : Int32} {v_t_learntNow : Int32} {v_t_forgottenNow : Int32} {v_t_heardMany : Int32} {v_t_its0 : Int32} {v_t_hasImage : Int32} {v_t_imageActs : Int32} {v_t_imageHeard : Int32} {k1 : Int32} (hret : ∀ (H : Heap) (locs : List Loc) (pc : Nat) (ls : Array Slot), va_P E.1 vwCl (w_X12_isPerson E a_t a_t_songLong a_t_firstNote a_t_wit a_t_code a_t_tape a_t_refused a_t_newSongLong a_t_newFirstNote a_t_newWit a_t_newRow a_t_readCode a_t_waits a_t_tested a_t_isTold a_t_rows a_t_ahead a_t_told a_t_pile a_t_common a_t_mostOf a_t_likes a_t_heard a_t_soon a_t_soonAll a_t_imageRow a_t_imageAhead a_t_imageHears o_t_thrown v_t_songs v_t_people v_t_forgetsAt v_t_fillsAt v_t_taped v_t_faultKind v_t_faultPlace v_t_long1 v_t_next0 v_t_sort v_t_place v_t_long0 v_t_value v_t_sign v_t_word v_t_newSongs v_t_newPeople v_t_newForgetsAt v_t_newFillsAt v_t_top v_t_firstValue v_t_lastValue v_t_waiting v_t_depth v_t_acts v_t_isWinter v_t_learntNow v_t_forgottenNow v_t_heardMany v_t_its0 v_t_hasImage v_t_imageActs v_t_imageHeard) H → va_S A s.heap H locs → narrow .boolean (.int rr) = .int rr → decode cX12_isPerson pc = .ok (.ireturn, 1) → W p l e rm_X12_isPerson s m args below meth c H locs 0 0 Q (F0 m pc ls [.int rr])) (h : f_X12_isPerson_18 k1 v_t_thrown = some (rr, o_t_thrown)) : S_X12_isPerson_18 p l e s m args below meth c Q a_t a_t_songLong a_t_firstNote a_t_wit a_t_code a_t_tape a_t_refused a_t_newSongLong a_t_newFirstNote a_t_newWit a_t_newRow a_t_readCode a_t_waits a_t_tested a_t_isTold a_t_rows a_t_ahead a_t_told a_t_pile a_t_common a_t_mostOf a_t_likes a_t_heard a_t_soon a_t_soonAll a_t_imageRow a_t_imageAhead a_t_imageHears E A v_t_thrown v_t_songs v_t_people v_t_forgetsAt v_t_fillsAt v_t_taped v_t_faultKind v_t_faultPlace v_t_long1 v_t_next0 v_t_sort v_t_place v_t_long0 v_t_value v_t_sign v_t_word v_t_newSongs v_t_newPeople v_t_newForgetsAt v_t_newFillsAt v_t_top v_t_firstValue v_t_lastValue v_t_waiting v_t_depth v_t_acts v_t_isWinter v_t_learntNow v_t_forgottenNow v_t_heardMany v_t_its0 v_t_hasImage v_t_imageActs v_t_imageHeard k1 := by
  obtain ⟨hx, hb, hml, hown, hts, hr, hlk⟩ := id X0
  intro H locs ls hP hD hS hl
  unfold f_X12_isPerson_18 at h
  refine lv_iconst (v := 1) hx hb dX12_isPerson_18 (by decide) ?_
  obtain ⟨r2, o2_0, hz2, h⟩ := gs_b2_e h
  refine gs_backWi (ws1 := (w_X12_isPerson E a_t a_t_songLong a_t_firstNote a_t_wit a_t_code a_t_tape a_t_refused a_t_newSongLong a_t_newFirstNote a_t_newWit a_t_newRow a_t_readCode a_t_waits a_t_tested a_t_isTold a_t_rows a_t_ahead a_t_told a_t_pile a_t_common a_t_mostOf a_t_likes a_t_heard a_t_soon a_t_soonAll a_t_imageRow a_t_imageAhead a_t_imageHears o2_0 v_t_songs v_t_people v_t_forgetsAt v_t_fillsAt v_t_taped v_t_faultKind v_t_faultPlace v_t_long1 v_t_next0 v_t_sort v_t_place v_t_long0 v_t_value v_t_sign v_t_word v_t_newSongs v_t_newPeople v_t_newForgetsAt v_t_newFillsAt v_t_top v_t_firstValue v_t_lastValue v_t_waiting v_t_depth v_t_acts v_t_isWinter v_t_learntNow v_t_forgottenNow v_t_heardMany v_t_its0 v_t_hasImage v_t_imageActs v_t_imageHeard)) (va_runV (As := [.int k1, .int 1]) (rest := []) ⟨hx, hb, hml, hown, hts⟩ (c_X12_right l E a_t a_t_songLong a_t_firstNote a_t_wit a_t_code a_t_tape a_t_refused a_t_newSongLong a_t_newFirstNote a_t_newWit a_t_newRow a_t_readCode a_t_waits a_t_tested a_t_isTold a_t_rows a_t_ahead a_t_told a_t_pile a_t_common a_t_mostOf a_t_likes a_t_heard a_t_soon a_t_soonAll a_t_imageRow a_t_imageAhead a_t_imageHears v_t_thrown v_t_songs v_t_people v_t_forgetsAt v_t_fillsAt v_t_taped v_t_faultKind v_t_faultPlace v_t_long1 v_t_next0 v_t_sort v_t_place v_t_long0 v_t_value v_t_sign v_t_word v_t_newSongs v_t_newPeople v_t_newForgetsAt v_t_newFillsAt v_t_top v_t_firstValue v_t_lastValue v_t_waiting v_t_depth v_t_acts v_t_isWinter v_t_learntNow v_t_forgottenNow v_t_heardMany v_t_its0 v_t_hasImage v_t_imageActs v_t_imageHeard k1 1 r2 o2_0 hz2) (cwV 2 hts gX12_isPerson_X12_right rfl rfl rfl (by decide +kernel) ⟨Nat.le_of_ble_eq_true rfl, Nat.le_of_ble_eq_true rfl⟩) (gs_preV (ci := 12) hk hP hD (is := [0]) rfl rfl rfl rfl) rfl rfl hl.1 rfl (lv_room (Nat.le_of_ble_eq_true rfl)) dX12_isPerson_19 ⟨Nat.zero_le _, Nat.zero_le _⟩) hP hD hS [0] rfl rfl rfl rfl (fun H locs hP hD hS => ?_)
  obtain ⟨g3, h⟩ := gs_gd_e h
  have h := Option.some.inj h
  obtain ⟨w0, h⟩ := Prod.mk.inj h
  subst h
  subst w0
  exact hret _ _ _ _ hP hS (gs_bz_e g3) dX12_isPerson_22
def f_X12_isPerson (x1 : Int32) (v_t_thrown : Int32) (v_t_people : Int32) : Option (Int32 × Int32) :=
  if x1 < 0 then
    f_X12_isPerson_18 0 v_t_thrown
  else
    if v_t_people ≤ x1 then
      f_X12_isPerson_18 0 v_t_thrown
    else
      f_X12_isPerson_18 1 v_t_thrown
set_option maxHeartbeats 4000000 in
set_option maxRecDepth 100000 in
theorem c_X12_isPerson (l : Launch) (E : gs_E) (a_t a_t_songLong a_t_firstNote a_t_wit a_t_code a_t_tape a_t_refused a_t_newSongLong a_t_newFirstNote a_t_newWit a_t_newRow a_t_readCode a_t_waits a_t_tested a_t_isTold a_t_rows a_t_ahead a_t_told a_t_pile a_t_common a_t_mostOf a_t_likes a_t_heard a_t_soon a_t_soonAll a_t_imageRow a_t_imageAhead a_t_imageHears : Nat) (v_t_thrown : Int32) (v_t_songs : Int32) (v_t_people : Int32) (v_t_forgetsAt : Int32) (v_t_fillsAt : Int32) (v_t_taped : Int32) (v_t_faultKind : Int32) (v_t_faultPlace : Int32) (v_t_long1 : Int32) (v_t_next0 : Int32) (v_t_sort : Int32) (v_t_place : Int32) (v_t_long0 : Int32) (v_t_value : Int32) (v_t_sign : Int32) (v_t_word : Int64) (v_t_newSongs : Int32) (v_t_newPeople : Int32) (v_t_newForgetsAt : Int32) (v_t_newFillsAt : Int32) (v_t_top : Int32) (v_t_firstValue : Int32) (v_t_lastValue : Int32) (v_t_waiting : Int32) (v_t_depth : Int32) (v_t_acts : Int32) (v_t_isWinter : Int32) (v_t_learntNow : Int32) (v_t_forgottenNow : Int32) (v_t_heardMany : Int32) (v_t_its0 : Int32) (v_t_hasImage : Int32) (v_t_imageActs : Int32) (v_t_imageHeard : Int32) (x1 : Int32) (rr : Int32) (o_t_thrown : Int32) (h : f_X12_isPerson x1 v_t_thrown v_t_people = some (rr, o_t_thrown)) : gs_MW l yX12_isPerson wsX12_isPerson rm_X12_isPerson [.ref a_t, .int x1] E (w_X12_isPerson E a_t a_t_songLong a_t_firstNote a_t_wit a_t_code a_t_tape a_t_refused a_t_newSongLong a_t_newFirstNote a_t_newWit a_t_newRow a_t_readCode a_t_waits a_t_tested a_t_isTold a_t_rows a_t_ahead a_t_told a_t_pile a_t_common a_t_mostOf a_t_likes a_t_heard a_t_soon a_t_soonAll a_t_imageRow a_t_imageAhead a_t_imageHears v_t_thrown v_t_songs v_t_people v_t_forgetsAt v_t_fillsAt v_t_taped v_t_faultKind v_t_faultPlace v_t_long1 v_t_next0 v_t_sort v_t_place v_t_long0 v_t_value v_t_sign v_t_word v_t_newSongs v_t_newPeople v_t_newForgetsAt v_t_newFillsAt v_t_top v_t_firstValue v_t_lastValue v_t_waiting v_t_depth v_t_acts v_t_isWinter v_t_learntNow v_t_forgottenNow v_t_heardMany v_t_its0 v_t_hasImage v_t_imageActs v_t_imageHeard) (w_X12_isPerson E a_t a_t_songLong a_t_firstNote a_t_wit a_t_code a_t_tape a_t_refused a_t_newSongLong a_t_newFirstNote a_t_newWit a_t_newRow a_t_readCode a_t_waits a_t_tested a_t_isTold a_t_rows a_t_ahead a_t_told a_t_pile a_t_common a_t_mostOf a_t_likes a_t_heard a_t_soon a_t_soonAll a_t_imageRow a_t_imageAhead a_t_imageHears o_t_thrown v_t_songs v_t_people v_t_forgetsAt v_t_fillsAt v_t_taped v_t_faultKind v_t_faultPlace v_t_long1 v_t_next0 v_t_sort v_t_place v_t_long0 v_t_value v_t_sign v_t_word v_t_newSongs v_t_newPeople v_t_newForgetsAt v_t_newFillsAt v_t_top v_t_firstValue v_t_lastValue v_t_waiting v_t_depth v_t_acts v_t_isWinter v_t_learntNow v_t_forgottenNow v_t_heardMany v_t_its0 v_t_hasImage v_t_imageActs v_t_imageHeard) (some (.int rr)) := by
  refine Met.ofW (cc := cX12_isPerson) (maxL := 2) (ret := (some .boolean)) (by decide) rfl ?_
  intro p e s m args below meth c s₁ B hml hv
  obtain ⟨rfl, hP, hk, hD0⟩ := hv
  have X0 : gs_X wsX12_isPerson cX12_isPerson RX12 2 (some .boolean) p s m ([.ref a_t, .int x1] : List Value).toArray meth c := gs_X.of B hml
  obtain ⟨hx, hb, -, hown, hts, hr, hlk⟩ := id X0
  have hD := (gs_D_self hD0)
  generalize hAe : gs_w (w_X12_isPerson E a_t a_t_songLong a_t_firstNote a_t_wit a_t_code a_t_tape a_t_refused a_t_newSongLong a_t_newFirstNote a_t_newWit a_t_newRow a_t_readCode a_t_waits a_t_tested a_t_isTold a_t_rows a_t_ahead a_t_told a_t_pile a_t_common a_t_mostOf a_t_likes a_t_heard a_t_soon a_t_soonAll a_t_imageRow a_t_imageAhead a_t_imageHears v_t_thrown v_t_songs v_t_people v_t_forgetsAt v_t_fillsAt v_t_taped v_t_faultKind v_t_faultPlace v_t_long1 v_t_next0 v_t_sort v_t_place v_t_long0 v_t_value v_t_sign v_t_word v_t_newSongs v_t_newPeople v_t_newForgetsAt v_t_newFillsAt v_t_top v_t_firstValue v_t_lastValue v_t_waiting v_t_depth v_t_acts v_t_isWinter v_t_learntNow v_t_forgottenNow v_t_heardMany v_t_its0 v_t_hasImage v_t_imageActs v_t_imageHeard) = A at hD ⊢
  have hS : va_S A s.heap s.heap [] := va_S.rf
  have hret : ∀ (H : Heap) (locs : List Loc) (pc : Nat) (ls : Array Slot), va_P E.1 vwCl (w_X12_isPerson E a_t a_t_songLong a_t_firstNote a_t_wit a_t_code a_t_tape a_t_refused a_t_newSongLong a_t_newFirstNote a_t_newWit a_t_newRow a_t_readCode a_t_waits a_t_tested a_t_isTold a_t_rows a_t_ahead a_t_told a_t_pile a_t_common a_t_mostOf a_t_likes a_t_heard a_t_soon a_t_soonAll a_t_imageRow a_t_imageAhead a_t_imageHears o_t_thrown v_t_songs v_t_people v_t_forgetsAt v_t_fillsAt v_t_taped v_t_faultKind v_t_faultPlace v_t_long1 v_t_next0 v_t_sort v_t_place v_t_long0 v_t_value v_t_sign v_t_word v_t_newSongs v_t_newPeople v_t_newForgetsAt v_t_newFillsAt v_t_top v_t_firstValue v_t_lastValue v_t_waiting v_t_depth v_t_acts v_t_isWinter v_t_learntNow v_t_forgottenNow v_t_heardMany v_t_its0 v_t_hasImage v_t_imageActs v_t_imageHeard) H → va_S A s.heap H locs → narrow .boolean (.int rr) = .int rr → decode cX12_isPerson pc = .ok (.ireturn, 1) → W p l e rm_X12_isPerson s m ([.ref a_t, .int x1] : List Value).toArray below meth c H locs 0 0 (MQ below (gs_QWA E A (w_X12_isPerson E a_t a_t_songLong a_t_firstNote a_t_wit a_t_code a_t_tape a_t_refused a_t_newSongLong a_t_newFirstNote a_t_newWit a_t_newRow a_t_readCode a_t_waits a_t_tested a_t_isTold a_t_rows a_t_ahead a_t_told a_t_pile a_t_common a_t_mostOf a_t_likes a_t_heard a_t_soon a_t_soonAll a_t_imageRow a_t_imageAhead a_t_imageHears o_t_thrown v_t_songs v_t_people v_t_forgetsAt v_t_fillsAt v_t_taped v_t_faultKind v_t_faultPlace v_t_long1 v_t_next0 v_t_sort v_t_place v_t_long0 v_t_value v_t_sign v_t_word v_t_newSongs v_t_newPeople v_t_newForgetsAt v_t_newFillsAt v_t_top v_t_firstValue v_t_lastValue v_t_waiting v_t_depth v_t_acts v_t_isWinter v_t_learntNow v_t_forgottenNow v_t_heardMany v_t_its0 v_t_hasImage v_t_imageActs v_t_imageHeard) (some (.int rr))) ([.ref a_t, .int x1] : List Value).toArray s 0 0 A) (F0 m pc ls [.int rr]) := fun H locs pc ls hP hS hnar hd => W.zret hx hb hr hnar (fun t ht hW => ⟨rfl, by rw [ht]; exact hP, hS.F ht⟩) hS.2.2 hd
  have hl := lv_entry ([.ref a_t, .int x1]) (n := 2) (Nat.le_of_ble_eq_true rfl)
  rw [lg_entry_eq]
  generalize (lg_sl ([.ref a_t, .int x1]) ++ List.replicate (2 - (lg_sl ([.ref a_t, .int x1])).length) Slot.unset).toArray = ls at hl ⊢
  have hl : lv_has ls 2 [(0, .ref a_t), (1, .int x1)] := hl
  unfold f_X12_isPerson at h
  refine lv_aload_n hx hb dX12_isPerson_0 rfl (lv_at hl 0 rfl) ?_
  refine lv_iload_n hx hb dX12_isPerson_1 rfl (lv_at hl 1 rfl) ?_
  refine lv_if_lt (tgt := 17) hx hb dX12_isPerson_2 (by decide) (fun c1 => ?_) (fun c1 => ?_)
  · replace h := gs_ift c1 h
    refine lv_iconst (v := 0) hx hb dX12_isPerson_17 (by decide) ?_
    exact t_X12_isPerson_18 X0 hk  hret  (h := h) _ _ _ hP hD hS (lv_sub hl [] rfl)
  · replace h := gs_iff c1 h
    refine lv_iload_n hx hb dX12_isPerson_5 rfl (lv_at hl 1 rfl) ?_
    refine lv_aload_n hx hb dX12_isPerson_6 rfl (lv_at hl 0 rfl) ?_
    refine va_get (D := E.1) (ci := 12) (v := .int v_t_people) (C := RX12) (T := TX12) (N := 61) hx hb hts (fun _ h => (List.mem_cons_of_mem _ (List.mem_append_right _ h))) hown hk.1 hP 0 rfl rfl 2 (by decide) (hts (.fieldLink RX12 276 "GapSongsModel" "people" "I") (List.mem_cons_of_mem _ (List.mem_append_left _ (List.mem_of_getElem? (i := 0) rfl)))) (fun _ h9 => h9) rfl dX12_isPerson_7 ?_
    refine lv_icmp_ge (tgt := 17) hx hb dX12_isPerson_10 (by decide) (fun c4 => ?_) (fun c4 => ?_)
    · replace h := gs_ift c4 h
      refine lv_iconst (v := 0) hx hb dX12_isPerson_17 (by decide) ?_
      exact t_X12_isPerson_18 X0 hk  hret  (h := h) _ _ _ hP hD hS (lv_sub hl [] rfl)
    · replace h := gs_iff c4 h
      refine lv_iconst (v := 1) hx hb dX12_isPerson_13 (by decide) ?_
      refine lv_goto (tgt := 18) hx hb dX12_isPerson_14 (by decide) ?_
      exact t_X12_isPerson_18 X0 hk  hret  (h := h) _ _ _ hP hD hS (lv_sub hl [] rfl)

set_option maxRecDepth 100000 in
theorem ggX12_isPlace_X12_right : GoodIn wsX12_isPlace wsX12_right := goodIn_r _ [6, 7, 8, 9, 10, 11, 12, 13, 14, 15, 16, 17, 18, 19, 20, 21, 22, 23, 24, 25, 26, 27, 28, 29, 30, 31, 32, 33, 34, 35, 36, 37, 38, 39, 40, 41, 42, 43, 44, 45, 46, 47, 48, 49, 50, 51, 52, 53, 54, 55, 56, 57, 58, 59, 60, 61, 62, 63, 64, 65, 66, 67, 68] rfl (by decide +kernel)
set_option maxRecDepth 100000 in
theorem gX12_isPlace_X12_right : GoodIn wsX12_isPlace (wsV RX12 266 RX12 yX12_right wsX12_right) := goodIn_app (goodIn_of _ (by decide +kernel)) ggX12_isPlace_X12_right
theorem dX12_isPlace_0 : decode cX12_isPlace 0 = .ok (.aload_n 0, 1) := by decide +kernel
theorem dX12_isPlace_1 : decode cX12_isPlace 1 = .ok (.iload_n 2, 1) := by decide +kernel
theorem dX12_isPlace_2 : decode cX12_isPlace 2 = .ok (.ifCond .lt 17, 3) := by decide +kernel
theorem dX12_isPlace_5 : decode cX12_isPlace 5 = .ok (.iload_n 2, 1) := by decide +kernel
theorem dX12_isPlace_6 : decode cX12_isPlace 6 = .ok (.aload_n 0, 1) := by decide +kernel
theorem dX12_isPlace_7 : decode cX12_isPlace 7 = .ok (.getfield 16, 3) := by decide +kernel
theorem dX12_isPlace_10 : decode cX12_isPlace 10 = .ok (.iload_n 1, 1) := by decide +kernel
theorem dX12_isPlace_11 : decode cX12_isPlace 11 = .ok (.iaload, 1) := by decide +kernel
theorem dX12_isPlace_12 : decode cX12_isPlace 12 = .ok (.if_icmp .ge 7, 3) := by decide +kernel
theorem dX12_isPlace_15 : decode cX12_isPlace 15 = .ok (.iconst 1, 1) := by decide +kernel
theorem dX12_isPlace_16 : decode cX12_isPlace 16 = .ok (.goto 4, 3) := by decide +kernel
theorem dX12_isPlace_19 : decode cX12_isPlace 19 = .ok (.iconst 0, 1) := by decide +kernel
theorem dX12_isPlace_20 : decode cX12_isPlace 20 = .ok (.iconst 1, 1) := by decide +kernel
theorem dX12_isPlace_21 : decode cX12_isPlace 21 = .ok (.invokevirtual 266, 3) := by decide +kernel
theorem dX12_isPlace_24 : decode cX12_isPlace 24 = .ok (.ireturn, 1) := by decide +kernel
abbrev w_X12_isPlace (E : gs_E) (a_t a_t_songLong a_t_firstNote a_t_wit a_t_code a_t_tape a_t_refused a_t_newSongLong a_t_newFirstNote a_t_newWit a_t_newRow a_t_readCode a_t_waits a_t_tested a_t_isTold a_t_rows a_t_ahead a_t_told a_t_pile a_t_common a_t_mostOf a_t_likes a_t_heard a_t_soon a_t_soonAll a_t_imageRow a_t_imageAhead a_t_imageHears : Nat) (v_t_thrown : Int32) (v_t_songs : Int32) (v_t_people : Int32) (v_t_forgetsAt : Int32) (v_t_fillsAt : Int32) (v_t_taped : Int32) (v_t_faultKind : Int32) (v_t_faultPlace : Int32) (v_t_long1 : Int32) (v_t_next0 : Int32) (v_t_sort : Int32) (v_t_place : Int32) (v_t_long0 : Int32) (v_t_value : Int32) (v_t_sign : Int32) (v_t_word : Int64) (v_t_newSongs : Int32) (v_t_newPeople : Int32) (v_t_newForgetsAt : Int32) (v_t_newFillsAt : Int32) (v_t_top : Int32) (v_t_firstValue : Int32) (v_t_lastValue : Int32) (v_t_waiting : Int32) (v_t_depth : Int32) (v_t_acts : Int32) (v_t_isWinter : Int32) (v_t_learntNow : Int32) (v_t_forgottenNow : Int32) (v_t_heardMany : Int32) (v_t_its0 : Int32) (v_t_hasImage : Int32) (v_t_imageActs : Int32) (v_t_imageHeard : Int32) (r_t_songLong : Nat → Int32) : va_W := [(a_t, .inr (12, [.int v_t_thrown, .int v_t_songs, .int v_t_people, .int v_t_forgetsAt, .int v_t_fillsAt, .ref a_t_songLong, .ref a_t_firstNote, .ref a_t_wit, .ref a_t_code, .ref a_t_tape, .int v_t_taped, .int v_t_faultKind, .int v_t_faultPlace, .ref a_t_refused, .int v_t_long1, .int v_t_next0, .int v_t_sort, .int v_t_place, .int v_t_long0, .int v_t_value, .int v_t_sign, .long v_t_word, .int v_t_newSongs, .int v_t_newPeople, .int v_t_newForgetsAt, .int v_t_newFillsAt, .int v_t_top, .int v_t_firstValue, .int v_t_lastValue, .int v_t_waiting, .int v_t_depth, .ref a_t_newSongLong, .ref a_t_newFirstNote, .ref a_t_newWit, .ref a_t_newRow, .ref a_t_readCode, .ref a_t_waits, .ref a_t_tested, .ref a_t_isTold, .ref a_t_rows, .ref a_t_ahead, .int v_t_acts, .ref a_t_told, .ref a_t_pile, .int v_t_isWinter, .int v_t_learntNow, .int v_t_forgottenNow, .ref a_t_common, .ref a_t_mostOf, .ref a_t_likes, .int v_t_heardMany, .ref a_t_heard, .ref a_t_soon, .ref a_t_soonAll, .int v_t_its0, .int v_t_hasImage, .int v_t_imageActs, .int v_t_imageHeard, .ref a_t_imageRow, .ref a_t_imageAhead, .ref a_t_imageHears])), (a_t_songLong, .inl (E.2.1, 5, .inl r_t_songLong))]
abbrev rm_X12_isPlace : Room := { frames := 1, cells := 0, slots := 0, locals := 22 }
def S_X12_isPlace_20 (p : Program) (l : Launch) (e : Env) (s : State) (m : MethodId) (args : Array Value) (below : List Frame) (meth : Method) (c : Code) (Q : State → Prop) (a_t a_t_songLong a_t_firstNote a_t_wit a_t_code a_t_tape a_t_refused a_t_newSongLong a_t_newFirstNote a_t_newWit a_t_newRow a_t_readCode a_t_waits a_t_tested a_t_isTold a_t_rows a_t_ahead a_t_told a_t_pile a_t_common a_t_mostOf a_t_likes a_t_heard a_t_soon a_t_soonAll a_t_imageRow a_t_imageAhead a_t_imageHears : Nat) (E : gs_E) (A : Nat → Prop) (v_t_thrown : Int32) (v_t_songs : Int32) (v_t_people : Int32) (v_t_forgetsAt : Int32) (v_t_fillsAt : Int32) (v_t_taped : Int32) (v_t_faultKind : Int32) (v_t_faultPlace : Int32) (v_t_long1 : Int32) (v_t_next0 : Int32) (v_t_sort : Int32) (v_t_place : Int32) (v_t_long0 : Int32) (v_t_value : Int32) (v_t_sign : Int32) (v_t_word : Int64) (v_t_newSongs : Int32) (v_t_newPeople : Int32) (v_t_newForgetsAt : Int32) (v_t_newFillsAt : Int32) (v_t_top : Int32) (v_t_firstValue : Int32) (v_t_lastValue : Int32) (v_t_waiting : Int32) (v_t_depth : Int32) (v_t_acts : Int32) (v_t_isWinter : Int32) (v_t_learntNow : Int32) (v_t_forgottenNow : Int32) (v_t_heardMany : Int32) (v_t_its0 : Int32) (v_t_hasImage : Int32) (v_t_imageActs : Int32) (v_t_imageHeard : Int32) (r_t_songLong : Nat → Int32) (k1 : Int32) : Prop := ∀ (H : Heap) (locs : List Loc) (ls : Array Slot), va_P E.1 vwCl (w_X12_isPlace E a_t a_t_songLong a_t_firstNote a_t_wit a_t_code a_t_tape a_t_refused a_t_newSongLong a_t_newFirstNote a_t_newWit a_t_newRow a_t_readCode a_t_waits a_t_tested a_t_isTold a_t_rows a_t_ahead a_t_told a_t_pile a_t_common a_t_mostOf a_t_likes a_t_heard a_t_soon a_t_soonAll a_t_imageRow a_t_imageAhead a_t_imageHears v_t_thrown v_t_songs v_t_people v_t_forgetsAt v_t_fillsAt v_t_taped v_t_faultKind v_t_faultPlace v_t_long1 v_t_next0 v_t_sort v_t_place v_t_long0 v_t_value v_t_sign v_t_word v_t_newSongs v_t_newPeople v_t_newForgetsAt v_t_newFillsAt v_t_top v_t_firstValue v_t_lastValue v_t_waiting v_t_depth v_t_acts v_t_isWinter v_t_learntNow v_t_forgottenNow v_t_heardMany v_t_its0 v_t_hasImage v_t_imageActs v_t_imageHeard r_t_songLong) H → va_D A (w_X12_isPlace E a_t a_t_songLong a_t_firstNote a_t_wit a_t_code a_t_tape a_t_refused a_t_newSongLong a_t_newFirstNote a_t_newWit a_t_newRow a_t_readCode a_t_waits a_t_tested a_t_isTold a_t_rows a_t_ahead a_t_told a_t_pile a_t_common a_t_mostOf a_t_likes a_t_heard a_t_soon a_t_soonAll a_t_imageRow a_t_imageAhead a_t_imageHears v_t_thrown v_t_songs v_t_people v_t_forgetsAt v_t_fillsAt v_t_taped v_t_faultKind v_t_faultPlace v_t_long1 v_t_next0 v_t_sort v_t_place v_t_long0 v_t_value v_t_sign v_t_word v_t_newSongs v_t_newPeople v_t_newForgetsAt v_t_newFillsAt v_t_top v_t_firstValue v_t_lastValue v_t_waiting v_t_depth v_t_acts v_t_isWinter v_t_learntNow v_t_forgottenNow v_t_heardMany v_t_its0 v_t_hasImage v_t_imageActs v_t_imageHeard r_t_songLong) → va_S A s.heap H locs → lv_has ls 3 [] → W p l e rm_X12_isPlace s m args below meth c H locs 0 0 Q (F0 m 20 ls [.int k1, .ref a_t])
def f_X12_isPlace_20 (k1 : Int32) (v_t_thrown : Int32) : Option (Int32 × Int32) :=
  gs_b2 (f_X12_right k1 1 v_t_thrown) fun r2 o2_0 =>
  gs_gd (gs_bz r2) <|
  some (r2, o2_0)
set_option maxHeartbeats 4000000 in
set_option maxRecDepth 100000 in
theorem t_X12_isPlace_20 {p : Program} {l : Launch} {e : Env} {s : State} {m : MethodId} {args : Array Value} {below : List Frame} {meth : Method} {c : Code} {Q : State → Prop} {E : gs_E} {A : Nat → Prop} {a_t a_t_songLong a_t_firstNote a_t_wit a_t_code a_t_tape a_t_refused a_t_newSongLong a_t_newFirstNote a_t_newWit a_t_newRow a_t_readCode a_t_waits a_t_tested a_t_isTold a_t_rows a_t_ahead a_t_told a_t_pile a_t_common a_t_mostOf a_t_likes a_t_heard a_t_soon a_t_soonAll a_t_imageRow a_t_imageAhead a_t_imageHears : Nat} {rr : Int32} {o_t_thrown : Int32} (X0 : gs_X wsX12_isPlace cX12_isPlace RX12 3 (some .boolean) p s m args meth c) (hk : gs_K E s) {v_t_thrown : Int32} {v_t_songs : Int32} {v_t_people : Int32} {v_t_forgetsAt : Int32} {v_t_fillsAt : Int32} {v_t_taped : Int32} {v_t_faultKind : Int32} {v_t_faultPlace : Int32} {v_t_long1 : Int32} {v_t_next0 : Int32} {v_t_sort : Int32} {v_t_place : Int32} {v_t_long0 : Int32} {v_t_value : Int32} {v_t_sign : Int32} {v_t_word : Int64} {v_t_newSongs : Int32} {v_t_newPeople : Int32} {v_t_newForgetsAt : Int32} {v_t_newFillsAt : Int32} {v_t_top : Int32} {v_t_firstValue : Int32} {v_t_lastValue : Int32} {v_t_waiting : Int32} {v_t_depth : Int32} {v_t_acts : Int32} {v_t_isWinter : Int32} {v_t_learntNow : Int32} {v_t_forgottenNow : Int32} {v_t_heardMany : Int32} {v_t_its0 : Int32} {v_t_hasImage : Int32} {v_t_imageActs : Int32} {v_t_imageHeard : Int32} {r_t_songLong : Nat → Int32} {k1 : Int32} (hret : ∀ (H : Heap) (locs : List Loc) (pc : Nat) (ls : Array Slot), va_P E.1 vwCl (w_X12_isPlace E a_t a_t_songLong a_t_firstNote a_t_wit a_t_code a_t_tape a_t_refused a_t_newSongLong a_t_newFirstNote a_t_newWit a_t_newRow a_t_readCode a_t_waits a_t_tested a_t_isTold a_t_rows a_t_ahead a_t_told a_t_pile a_t_common a_t_mostOf a_t_likes a_t_heard a_t_soon a_t_soonAll a_t_imageRow a_t_imageAhead a_t_imageHears o_t_thrown v_t_songs v_t_people v_t_forgetsAt v_t_fillsAt v_t_taped v_t_faultKind v_t_faultPlace v_t_long1 v_t_next0 v_t_sort v_t_place v_t_long0 v_t_value v_t_sign v_t_word v_t_newSongs v_t_newPeople v_t_newForgetsAt v_t_newFillsAt v_t_top v_t_firstValue v_t_lastValue v_t_waiting v_t_depth v_t_acts v_t_isWinter v_t_learntNow v_t_forgottenNow v_t_heardMany v_t_its0 v_t_hasImage v_t_imageActs v_t_imageHeard r_t_songLong) H → va_S A s.heap H locs → narrow .boolean (.int rr) = .int rr → decode cX12_isPlace pc = .ok (.ireturn, 1) → W p l e rm_X12_isPlace s m args below meth c H locs 0 0 Q (F0 m pc ls [.int rr])) (h : f_X12_isPlace_20 k1 v_t_thrown = some (rr, o_t_thrown)) : S_X12_isPlace_20 p l e s m args below meth c Q a_t a_t_songLong a_t_firstNote a_t_wit a_t_code a_t_tape a_t_refused a_t_newSongLong a_t_newFirstNote a_t_newWit a_t_newRow a_t_readCode a_t_waits a_t_tested a_t_isTold a_t_rows a_t_ahead a_t_told a_t_pile a_t_common a_t_mostOf a_t_likes a_t_heard a_t_soon a_t_soonAll a_t_imageRow a_t_imageAhead a_t_imageHears E A v_t_thrown v_t_songs v_t_people v_t_forgetsAt v_t_fillsAt v_t_taped v_t_faultKind v_t_faultPlace v_t_long1 v_t_next0 v_t_sort v_t_place v_t_long0 v_t_value v_t_sign v_t_word v_t_newSongs v_t_newPeople v_t_newForgetsAt v_t_newFillsAt v_t_top v_t_firstValue v_t_lastValue v_t_waiting v_t_depth v_t_acts v_t_isWinter v_t_learntNow v_t_forgottenNow v_t_heardMany v_t_its0 v_t_hasImage v_t_imageActs v_t_imageHeard r_t_songLong k1 := by
  obtain ⟨hx, hb, hml, hown, hts, hr, hlk⟩ := id X0
  intro H locs ls hP hD hS hl
  unfold f_X12_isPlace_20 at h
  refine lv_iconst (v := 1) hx hb dX12_isPlace_20 (by decide) ?_
  obtain ⟨r2, o2_0, hz2, h⟩ := gs_b2_e h
  refine gs_backWi (ws1 := (w_X12_isPlace E a_t a_t_songLong a_t_firstNote a_t_wit a_t_code a_t_tape a_t_refused a_t_newSongLong a_t_newFirstNote a_t_newWit a_t_newRow a_t_readCode a_t_waits a_t_tested a_t_isTold a_t_rows a_t_ahead a_t_told a_t_pile a_t_common a_t_mostOf a_t_likes a_t_heard a_t_soon a_t_soonAll a_t_imageRow a_t_imageAhead a_t_imageHears o2_0 v_t_songs v_t_people v_t_forgetsAt v_t_fillsAt v_t_taped v_t_faultKind v_t_faultPlace v_t_long1 v_t_next0 v_t_sort v_t_place v_t_long0 v_t_value v_t_sign v_t_word v_t_newSongs v_t_newPeople v_t_newForgetsAt v_t_newFillsAt v_t_top v_t_firstValue v_t_lastValue v_t_waiting v_t_depth v_t_acts v_t_isWinter v_t_learntNow v_t_forgottenNow v_t_heardMany v_t_its0 v_t_hasImage v_t_imageActs v_t_imageHeard r_t_songLong)) (va_runV (As := [.int k1, .int 1]) (rest := []) ⟨hx, hb, hml, hown, hts⟩ (c_X12_right l E a_t a_t_songLong a_t_firstNote a_t_wit a_t_code a_t_tape a_t_refused a_t_newSongLong a_t_newFirstNote a_t_newWit a_t_newRow a_t_readCode a_t_waits a_t_tested a_t_isTold a_t_rows a_t_ahead a_t_told a_t_pile a_t_common a_t_mostOf a_t_likes a_t_heard a_t_soon a_t_soonAll a_t_imageRow a_t_imageAhead a_t_imageHears v_t_thrown v_t_songs v_t_people v_t_forgetsAt v_t_fillsAt v_t_taped v_t_faultKind v_t_faultPlace v_t_long1 v_t_next0 v_t_sort v_t_place v_t_long0 v_t_value v_t_sign v_t_word v_t_newSongs v_t_newPeople v_t_newForgetsAt v_t_newFillsAt v_t_top v_t_firstValue v_t_lastValue v_t_waiting v_t_depth v_t_acts v_t_isWinter v_t_learntNow v_t_forgottenNow v_t_heardMany v_t_its0 v_t_hasImage v_t_imageActs v_t_imageHeard k1 1 r2 o2_0 hz2) (cwV 2 hts gX12_isPlace_X12_right rfl rfl rfl (by decide +kernel) ⟨Nat.le_of_ble_eq_true rfl, Nat.le_of_ble_eq_true rfl⟩) (gs_preV (ci := 12) hk hP hD (is := [0]) rfl rfl rfl rfl) rfl rfl hl.1 rfl (lv_room (Nat.le_of_ble_eq_true rfl)) dX12_isPlace_21 ⟨Nat.zero_le _, Nat.zero_le _⟩) hP hD hS [0] rfl rfl rfl rfl (fun H locs hP hD hS => ?_)
  obtain ⟨g3, h⟩ := gs_gd_e h
  have h := Option.some.inj h
  obtain ⟨w0, h⟩ := Prod.mk.inj h
  subst h
  subst w0
  exact hret _ _ _ _ hP hS (gs_bz_e g3) dX12_isPlace_24
def f_X12_isPlace (x1 : Int32) (x2 : Int32) (v_t_thrown : Int32) (r_t_songLong : Nat → Int32) : Option (Int32 × Int32) :=
  if x2 < 0 then
    f_X12_isPlace_20 0 v_t_thrown
  else
    gs_gd (gs_in x1 5) <|
    if (r_t_songLong x1.toNatClampNeg) ≤ x2 then
      f_X12_isPlace_20 0 v_t_thrown
    else
      f_X12_isPlace_20 1 v_t_thrown
set_option maxHeartbeats 4000000 in
set_option maxRecDepth 100000 in
theorem c_X12_isPlace (l : Launch) (E : gs_E) (a_t a_t_songLong a_t_firstNote a_t_wit a_t_code a_t_tape a_t_refused a_t_newSongLong a_t_newFirstNote a_t_newWit a_t_newRow a_t_readCode a_t_waits a_t_tested a_t_isTold a_t_rows a_t_ahead a_t_told a_t_pile a_t_common a_t_mostOf a_t_likes a_t_heard a_t_soon a_t_soonAll a_t_imageRow a_t_imageAhead a_t_imageHears : Nat) (v_t_thrown : Int32) (v_t_songs : Int32) (v_t_people : Int32) (v_t_forgetsAt : Int32) (v_t_fillsAt : Int32) (v_t_taped : Int32) (v_t_faultKind : Int32) (v_t_faultPlace : Int32) (v_t_long1 : Int32) (v_t_next0 : Int32) (v_t_sort : Int32) (v_t_place : Int32) (v_t_long0 : Int32) (v_t_value : Int32) (v_t_sign : Int32) (v_t_word : Int64) (v_t_newSongs : Int32) (v_t_newPeople : Int32) (v_t_newForgetsAt : Int32) (v_t_newFillsAt : Int32) (v_t_top : Int32) (v_t_firstValue : Int32) (v_t_lastValue : Int32) (v_t_waiting : Int32) (v_t_depth : Int32) (v_t_acts : Int32) (v_t_isWinter : Int32) (v_t_learntNow : Int32) (v_t_forgottenNow : Int32) (v_t_heardMany : Int32) (v_t_its0 : Int32) (v_t_hasImage : Int32) (v_t_imageActs : Int32) (v_t_imageHeard : Int32) (r_t_songLong : Nat → Int32) (x1 : Int32) (x2 : Int32) (rr : Int32) (o_t_thrown : Int32) (h : f_X12_isPlace x1 x2 v_t_thrown r_t_songLong = some (rr, o_t_thrown)) : gs_MW l yX12_isPlace wsX12_isPlace rm_X12_isPlace [.ref a_t, .int x1, .int x2] E (w_X12_isPlace E a_t a_t_songLong a_t_firstNote a_t_wit a_t_code a_t_tape a_t_refused a_t_newSongLong a_t_newFirstNote a_t_newWit a_t_newRow a_t_readCode a_t_waits a_t_tested a_t_isTold a_t_rows a_t_ahead a_t_told a_t_pile a_t_common a_t_mostOf a_t_likes a_t_heard a_t_soon a_t_soonAll a_t_imageRow a_t_imageAhead a_t_imageHears v_t_thrown v_t_songs v_t_people v_t_forgetsAt v_t_fillsAt v_t_taped v_t_faultKind v_t_faultPlace v_t_long1 v_t_next0 v_t_sort v_t_place v_t_long0 v_t_value v_t_sign v_t_word v_t_newSongs v_t_newPeople v_t_newForgetsAt v_t_newFillsAt v_t_top v_t_firstValue v_t_lastValue v_t_waiting v_t_depth v_t_acts v_t_isWinter v_t_learntNow v_t_forgottenNow v_t_heardMany v_t_its0 v_t_hasImage v_t_imageActs v_t_imageHeard r_t_songLong) (w_X12_isPlace E a_t a_t_songLong a_t_firstNote a_t_wit a_t_code a_t_tape a_t_refused a_t_newSongLong a_t_newFirstNote a_t_newWit a_t_newRow a_t_readCode a_t_waits a_t_tested a_t_isTold a_t_rows a_t_ahead a_t_told a_t_pile a_t_common a_t_mostOf a_t_likes a_t_heard a_t_soon a_t_soonAll a_t_imageRow a_t_imageAhead a_t_imageHears o_t_thrown v_t_songs v_t_people v_t_forgetsAt v_t_fillsAt v_t_taped v_t_faultKind v_t_faultPlace v_t_long1 v_t_next0 v_t_sort v_t_place v_t_long0 v_t_value v_t_sign v_t_word v_t_newSongs v_t_newPeople v_t_newForgetsAt v_t_newFillsAt v_t_top v_t_firstValue v_t_lastValue v_t_waiting v_t_depth v_t_acts v_t_isWinter v_t_learntNow v_t_forgottenNow v_t_heardMany v_t_its0 v_t_hasImage v_t_imageActs v_t_imageHeard r_t_songLong) (some (.int rr)) := by
  refine Met.ofW (cc := cX12_isPlace) (maxL := 3) (ret := (some .boolean)) (by decide) rfl ?_
  intro p e s m args below meth c s₁ B hml hv
  obtain ⟨rfl, hP, hk, hD0⟩ := hv
  have X0 : gs_X wsX12_isPlace cX12_isPlace RX12 3 (some .boolean) p s m ([.ref a_t, .int x1, .int x2] : List Value).toArray meth c := gs_X.of B hml
  obtain ⟨hx, hb, -, hown, hts, hr, hlk⟩ := id X0
  have hD := (gs_D_self hD0)
  generalize hAe : gs_w (w_X12_isPlace E a_t a_t_songLong a_t_firstNote a_t_wit a_t_code a_t_tape a_t_refused a_t_newSongLong a_t_newFirstNote a_t_newWit a_t_newRow a_t_readCode a_t_waits a_t_tested a_t_isTold a_t_rows a_t_ahead a_t_told a_t_pile a_t_common a_t_mostOf a_t_likes a_t_heard a_t_soon a_t_soonAll a_t_imageRow a_t_imageAhead a_t_imageHears v_t_thrown v_t_songs v_t_people v_t_forgetsAt v_t_fillsAt v_t_taped v_t_faultKind v_t_faultPlace v_t_long1 v_t_next0 v_t_sort v_t_place v_t_long0 v_t_value v_t_sign v_t_word v_t_newSongs v_t_newPeople v_t_newForgetsAt v_t_newFillsAt v_t_top v_t_firstValue v_t_lastValue v_t_waiting v_t_depth v_t_acts v_t_isWinter v_t_learntNow v_t_forgottenNow v_t_heardMany v_t_its0 v_t_hasImage v_t_imageActs v_t_imageHeard r_t_songLong) = A at hD ⊢
  have hS : va_S A s.heap s.heap [] := va_S.rf
  have hret : ∀ (H : Heap) (locs : List Loc) (pc : Nat) (ls : Array Slot), va_P E.1 vwCl (w_X12_isPlace E a_t a_t_songLong a_t_firstNote a_t_wit a_t_code a_t_tape a_t_refused a_t_newSongLong a_t_newFirstNote a_t_newWit a_t_newRow a_t_readCode a_t_waits a_t_tested a_t_isTold a_t_rows a_t_ahead a_t_told a_t_pile a_t_common a_t_mostOf a_t_likes a_t_heard a_t_soon a_t_soonAll a_t_imageRow a_t_imageAhead a_t_imageHears o_t_thrown v_t_songs v_t_people v_t_forgetsAt v_t_fillsAt v_t_taped v_t_faultKind v_t_faultPlace v_t_long1 v_t_next0 v_t_sort v_t_place v_t_long0 v_t_value v_t_sign v_t_word v_t_newSongs v_t_newPeople v_t_newForgetsAt v_t_newFillsAt v_t_top v_t_firstValue v_t_lastValue v_t_waiting v_t_depth v_t_acts v_t_isWinter v_t_learntNow v_t_forgottenNow v_t_heardMany v_t_its0 v_t_hasImage v_t_imageActs v_t_imageHeard r_t_songLong) H → va_S A s.heap H locs → narrow .boolean (.int rr) = .int rr → decode cX12_isPlace pc = .ok (.ireturn, 1) → W p l e rm_X12_isPlace s m ([.ref a_t, .int x1, .int x2] : List Value).toArray below meth c H locs 0 0 (MQ below (gs_QWA E A (w_X12_isPlace E a_t a_t_songLong a_t_firstNote a_t_wit a_t_code a_t_tape a_t_refused a_t_newSongLong a_t_newFirstNote a_t_newWit a_t_newRow a_t_readCode a_t_waits a_t_tested a_t_isTold a_t_rows a_t_ahead a_t_told a_t_pile a_t_common a_t_mostOf a_t_likes a_t_heard a_t_soon a_t_soonAll a_t_imageRow a_t_imageAhead a_t_imageHears o_t_thrown v_t_songs v_t_people v_t_forgetsAt v_t_fillsAt v_t_taped v_t_faultKind v_t_faultPlace v_t_long1 v_t_next0 v_t_sort v_t_place v_t_long0 v_t_value v_t_sign v_t_word v_t_newSongs v_t_newPeople v_t_newForgetsAt v_t_newFillsAt v_t_top v_t_firstValue v_t_lastValue v_t_waiting v_t_depth v_t_acts v_t_isWinter v_t_learntNow v_t_forgottenNow v_t_heardMany v_t_its0 v_t_hasImage v_t_imageActs v_t_imageHeard r_t_songLong) (some (.int rr))) ([.ref a_t, .int x1, .int x2] : List Value).toArray s 0 0 A) (F0 m pc ls [.int rr]) := fun H locs pc ls hP hS hnar hd => W.zret hx hb hr hnar (fun t ht hW => ⟨rfl, by rw [ht]; exact hP, hS.F ht⟩) hS.2.2 hd
  have hl := lv_entry ([.ref a_t, .int x1, .int x2]) (n := 3) (Nat.le_of_ble_eq_true rfl)
  rw [lg_entry_eq]
  generalize (lg_sl ([.ref a_t, .int x1, .int x2]) ++ List.replicate (3 - (lg_sl ([.ref a_t, .int x1, .int x2])).length) Slot.unset).toArray = ls at hl ⊢
  have hl : lv_has ls 3 [(0, .ref a_t), (1, .int x1), (2, .int x2)] := hl
  unfold f_X12_isPlace at h
  refine lv_aload_n hx hb dX12_isPlace_0 rfl (lv_at hl 0 rfl) ?_
  refine lv_iload_n hx hb dX12_isPlace_1 rfl (lv_at hl 2 rfl) ?_
  refine lv_if_lt (tgt := 19) hx hb dX12_isPlace_2 (by decide) (fun c1 => ?_) (fun c1 => ?_)
  · replace h := gs_ift c1 h
    refine lv_iconst (v := 0) hx hb dX12_isPlace_19 (by decide) ?_
    exact t_X12_isPlace_20 X0 hk  hret  (h := h) _ _ _ hP hD hS (lv_sub hl [] rfl)
  · replace h := gs_iff c1 h
    refine lv_iload_n hx hb dX12_isPlace_5 rfl (lv_at hl 2 rfl) ?_
    refine lv_aload_n hx hb dX12_isPlace_6 rfl (lv_at hl 0 rfl) ?_
    refine va_get (D := E.1) (ci := 12) (v := .ref a_t_songLong) (C := RX12) (T := TX12) (N := 61) hx hb hts (fun _ h => (List.mem_cons_of_mem _ (List.mem_append_right _ h))) hown hk.1 hP 0 rfl rfl 5 (by decide) (hts (.fieldLink RX12 16 "GapSongsModel" "songLong" "[I") (List.mem_cons_of_mem _ (List.mem_append_left _ (List.mem_of_getElem? (i := 0) rfl)))) (fun _ h9 => h9) rfl dX12_isPlace_7 ?_
    refine lv_iload_n hx hb dX12_isPlace_10 rfl (lv_at hl 1 rfl) ?_
    obtain ⟨g4, h⟩ := gs_gd_e h
    refine va_iald hx hb hk.1 hP 1 0 rfl rfl (gs_in_e g4) dX12_isPlace_11 ?_
    refine lv_icmp_ge (tgt := 19) hx hb dX12_isPlace_12 (by decide) (fun c5 => ?_) (fun c5 => ?_)
    · replace h := gs_ift c5 h
      refine lv_iconst (v := 0) hx hb dX12_isPlace_19 (by decide) ?_
      exact t_X12_isPlace_20 X0 hk  hret  (h := h) _ _ _ hP hD hS (lv_sub hl [] rfl)
    · replace h := gs_iff c5 h
      refine lv_iconst (v := 1) hx hb dX12_isPlace_15 (by decide) ?_
      refine lv_goto (tgt := 20) hx hb dX12_isPlace_16 (by decide) ?_
      exact t_X12_isPlace_20 X0 hk  hret  (h := h) _ _ _ hP hD hS (lv_sub hl [] rfl)

set_option maxRecDepth 100000 in
theorem ggX12_isWhat_X12_within : GoodIn wsX12_isWhat wsX12_within := goodIn_r _ [4] rfl (by decide +kernel)
set_option maxRecDepth 100000 in
theorem gX12_isWhat_X12_within : GoodIn wsX12_isWhat (va_wsS RX12 356 yX12_within wsX12_within) := goodIn_app (goodIn_of _ (by decide +kernel)) ggX12_isWhat_X12_within
set_option maxRecDepth 100000 in
theorem ggX12_isWhat_X12_right : GoodIn wsX12_isWhat wsX12_right := goodIn_r _ [8, 9, 10, 11, 12, 13, 14, 15, 16, 17, 18, 19, 20, 21, 22, 23, 24, 25, 26, 27, 28, 29, 30, 31, 32, 33, 34, 35, 36, 37, 38, 39, 40, 41, 42, 43, 44, 45, 46, 47, 48, 49, 50, 51, 52, 53, 54, 55, 56, 57, 58, 59, 60, 61, 62, 63, 64, 65, 66, 67, 68, 69, 70] rfl (by decide +kernel)
set_option maxRecDepth 100000 in
theorem gX12_isWhat_X12_right : GoodIn wsX12_isWhat (wsV RX12 266 RX12 yX12_right wsX12_right) := goodIn_app (goodIn_of _ (by decide +kernel)) ggX12_isWhat_X12_right
theorem dX12_isWhat_0 : decode cX12_isWhat 0 = .ok (.aload_n 0, 1) := by decide +kernel
theorem dX12_isWhat_1 : decode cX12_isWhat 1 = .ok (.iload_n 1, 1) := by decide +kernel
theorem dX12_isWhat_2 : decode cX12_isWhat 2 = .ok (.iconst 0, 1) := by decide +kernel
theorem dX12_isWhat_3 : decode cX12_isWhat 3 = .ok (.iload_n 2, 1) := by decide +kernel
theorem dX12_isWhat_4 : decode cX12_isWhat 4 = .ok (.invokestatic 356, 3) := by decide +kernel
theorem dX12_isWhat_7 : decode cX12_isWhat 7 = .ok (.iconst 1, 1) := by decide +kernel
theorem dX12_isWhat_8 : decode cX12_isWhat 8 = .ok (.invokevirtual 266, 3) := by decide +kernel
theorem dX12_isWhat_11 : decode cX12_isWhat 11 = .ok (.ireturn, 1) := by decide +kernel
abbrev w_X12_isWhat (E : gs_E) (a_t a_t_songLong a_t_firstNote a_t_wit a_t_code a_t_tape a_t_refused a_t_newSongLong a_t_newFirstNote a_t_newWit a_t_newRow a_t_readCode a_t_waits a_t_tested a_t_isTold a_t_rows a_t_ahead a_t_told a_t_pile a_t_common a_t_mostOf a_t_likes a_t_heard a_t_soon a_t_soonAll a_t_imageRow a_t_imageAhead a_t_imageHears : Nat) (v_t_thrown : Int32) (v_t_songs : Int32) (v_t_people : Int32) (v_t_forgetsAt : Int32) (v_t_fillsAt : Int32) (v_t_taped : Int32) (v_t_faultKind : Int32) (v_t_faultPlace : Int32) (v_t_long1 : Int32) (v_t_next0 : Int32) (v_t_sort : Int32) (v_t_place : Int32) (v_t_long0 : Int32) (v_t_value : Int32) (v_t_sign : Int32) (v_t_word : Int64) (v_t_newSongs : Int32) (v_t_newPeople : Int32) (v_t_newForgetsAt : Int32) (v_t_newFillsAt : Int32) (v_t_top : Int32) (v_t_firstValue : Int32) (v_t_lastValue : Int32) (v_t_waiting : Int32) (v_t_depth : Int32) (v_t_acts : Int32) (v_t_isWinter : Int32) (v_t_learntNow : Int32) (v_t_forgottenNow : Int32) (v_t_heardMany : Int32) (v_t_its0 : Int32) (v_t_hasImage : Int32) (v_t_imageActs : Int32) (v_t_imageHeard : Int32) : va_W := [(a_t, .inr (12, [.int v_t_thrown, .int v_t_songs, .int v_t_people, .int v_t_forgetsAt, .int v_t_fillsAt, .ref a_t_songLong, .ref a_t_firstNote, .ref a_t_wit, .ref a_t_code, .ref a_t_tape, .int v_t_taped, .int v_t_faultKind, .int v_t_faultPlace, .ref a_t_refused, .int v_t_long1, .int v_t_next0, .int v_t_sort, .int v_t_place, .int v_t_long0, .int v_t_value, .int v_t_sign, .long v_t_word, .int v_t_newSongs, .int v_t_newPeople, .int v_t_newForgetsAt, .int v_t_newFillsAt, .int v_t_top, .int v_t_firstValue, .int v_t_lastValue, .int v_t_waiting, .int v_t_depth, .ref a_t_newSongLong, .ref a_t_newFirstNote, .ref a_t_newWit, .ref a_t_newRow, .ref a_t_readCode, .ref a_t_waits, .ref a_t_tested, .ref a_t_isTold, .ref a_t_rows, .ref a_t_ahead, .int v_t_acts, .ref a_t_told, .ref a_t_pile, .int v_t_isWinter, .int v_t_learntNow, .int v_t_forgottenNow, .ref a_t_common, .ref a_t_mostOf, .ref a_t_likes, .int v_t_heardMany, .ref a_t_heard, .ref a_t_soon, .ref a_t_soonAll, .int v_t_its0, .int v_t_hasImage, .int v_t_imageActs, .int v_t_imageHeard, .ref a_t_imageRow, .ref a_t_imageAhead, .ref a_t_imageHears]))]
abbrev rm_X12_isWhat : Room := { frames := 1, cells := 0, slots := 0, locals := 22 }
def f_X12_isWhat (x1 : Int32) (x2 : Int32) (v_t_thrown : Int32) : Option (Int32 × Int32) :=
  gs_b1 (f_X12_within x1 0 x2) fun r1 =>
  gs_b2 (f_X12_right r1 1 v_t_thrown) fun r2 o2_0 =>
  gs_gd (gs_bz r2) <|
  some (r2, o2_0)
set_option maxHeartbeats 4000000 in
set_option maxRecDepth 100000 in
theorem c_X12_isWhat (l : Launch) (E : gs_E) (a_t a_t_songLong a_t_firstNote a_t_wit a_t_code a_t_tape a_t_refused a_t_newSongLong a_t_newFirstNote a_t_newWit a_t_newRow a_t_readCode a_t_waits a_t_tested a_t_isTold a_t_rows a_t_ahead a_t_told a_t_pile a_t_common a_t_mostOf a_t_likes a_t_heard a_t_soon a_t_soonAll a_t_imageRow a_t_imageAhead a_t_imageHears : Nat) (v_t_thrown : Int32) (v_t_songs : Int32) (v_t_people : Int32) (v_t_forgetsAt : Int32) (v_t_fillsAt : Int32) (v_t_taped : Int32) (v_t_faultKind : Int32) (v_t_faultPlace : Int32) (v_t_long1 : Int32) (v_t_next0 : Int32) (v_t_sort : Int32) (v_t_place : Int32) (v_t_long0 : Int32) (v_t_value : Int32) (v_t_sign : Int32) (v_t_word : Int64) (v_t_newSongs : Int32) (v_t_newPeople : Int32) (v_t_newForgetsAt : Int32) (v_t_newFillsAt : Int32) (v_t_top : Int32) (v_t_firstValue : Int32) (v_t_lastValue : Int32) (v_t_waiting : Int32) (v_t_depth : Int32) (v_t_acts : Int32) (v_t_isWinter : Int32) (v_t_learntNow : Int32) (v_t_forgottenNow : Int32) (v_t_heardMany : Int32) (v_t_its0 : Int32) (v_t_hasImage : Int32) (v_t_imageActs : Int32) (v_t_imageHeard : Int32) (x1 : Int32) (x2 : Int32) (rr : Int32) (o_t_thrown : Int32) (h : f_X12_isWhat x1 x2 v_t_thrown = some (rr, o_t_thrown)) : gs_MW l yX12_isWhat wsX12_isWhat rm_X12_isWhat [.ref a_t, .int x1, .int x2] E (w_X12_isWhat E a_t a_t_songLong a_t_firstNote a_t_wit a_t_code a_t_tape a_t_refused a_t_newSongLong a_t_newFirstNote a_t_newWit a_t_newRow a_t_readCode a_t_waits a_t_tested a_t_isTold a_t_rows a_t_ahead a_t_told a_t_pile a_t_common a_t_mostOf a_t_likes a_t_heard a_t_soon a_t_soonAll a_t_imageRow a_t_imageAhead a_t_imageHears v_t_thrown v_t_songs v_t_people v_t_forgetsAt v_t_fillsAt v_t_taped v_t_faultKind v_t_faultPlace v_t_long1 v_t_next0 v_t_sort v_t_place v_t_long0 v_t_value v_t_sign v_t_word v_t_newSongs v_t_newPeople v_t_newForgetsAt v_t_newFillsAt v_t_top v_t_firstValue v_t_lastValue v_t_waiting v_t_depth v_t_acts v_t_isWinter v_t_learntNow v_t_forgottenNow v_t_heardMany v_t_its0 v_t_hasImage v_t_imageActs v_t_imageHeard) (w_X12_isWhat E a_t a_t_songLong a_t_firstNote a_t_wit a_t_code a_t_tape a_t_refused a_t_newSongLong a_t_newFirstNote a_t_newWit a_t_newRow a_t_readCode a_t_waits a_t_tested a_t_isTold a_t_rows a_t_ahead a_t_told a_t_pile a_t_common a_t_mostOf a_t_likes a_t_heard a_t_soon a_t_soonAll a_t_imageRow a_t_imageAhead a_t_imageHears o_t_thrown v_t_songs v_t_people v_t_forgetsAt v_t_fillsAt v_t_taped v_t_faultKind v_t_faultPlace v_t_long1 v_t_next0 v_t_sort v_t_place v_t_long0 v_t_value v_t_sign v_t_word v_t_newSongs v_t_newPeople v_t_newForgetsAt v_t_newFillsAt v_t_top v_t_firstValue v_t_lastValue v_t_waiting v_t_depth v_t_acts v_t_isWinter v_t_learntNow v_t_forgottenNow v_t_heardMany v_t_its0 v_t_hasImage v_t_imageActs v_t_imageHeard) (some (.int rr)) := by
  refine Met.ofW (cc := cX12_isWhat) (maxL := 3) (ret := (some .boolean)) (by decide) rfl ?_
  intro p e s m args below meth c s₁ B hml hv
  obtain ⟨rfl, hP, hk, hD0⟩ := hv
  have X0 : gs_X wsX12_isWhat cX12_isWhat RX12 3 (some .boolean) p s m ([.ref a_t, .int x1, .int x2] : List Value).toArray meth c := gs_X.of B hml
  obtain ⟨hx, hb, -, hown, hts, hr, hlk⟩ := id X0
  have hD := (gs_D_self hD0)
  generalize hAe : gs_w (w_X12_isWhat E a_t a_t_songLong a_t_firstNote a_t_wit a_t_code a_t_tape a_t_refused a_t_newSongLong a_t_newFirstNote a_t_newWit a_t_newRow a_t_readCode a_t_waits a_t_tested a_t_isTold a_t_rows a_t_ahead a_t_told a_t_pile a_t_common a_t_mostOf a_t_likes a_t_heard a_t_soon a_t_soonAll a_t_imageRow a_t_imageAhead a_t_imageHears v_t_thrown v_t_songs v_t_people v_t_forgetsAt v_t_fillsAt v_t_taped v_t_faultKind v_t_faultPlace v_t_long1 v_t_next0 v_t_sort v_t_place v_t_long0 v_t_value v_t_sign v_t_word v_t_newSongs v_t_newPeople v_t_newForgetsAt v_t_newFillsAt v_t_top v_t_firstValue v_t_lastValue v_t_waiting v_t_depth v_t_acts v_t_isWinter v_t_learntNow v_t_forgottenNow v_t_heardMany v_t_its0 v_t_hasImage v_t_imageActs v_t_imageHeard) = A at hD ⊢
  have hS : va_S A s.heap s.heap [] := va_S.rf
  have hret : ∀ (H : Heap) (locs : List Loc) (pc : Nat) (ls : Array Slot), va_P E.1 vwCl (w_X12_isWhat E a_t a_t_songLong a_t_firstNote a_t_wit a_t_code a_t_tape a_t_refused a_t_newSongLong a_t_newFirstNote a_t_newWit a_t_newRow a_t_readCode a_t_waits a_t_tested a_t_isTold a_t_rows a_t_ahead a_t_told a_t_pile a_t_common a_t_mostOf a_t_likes a_t_heard a_t_soon a_t_soonAll a_t_imageRow a_t_imageAhead a_t_imageHears o_t_thrown v_t_songs v_t_people v_t_forgetsAt v_t_fillsAt v_t_taped v_t_faultKind v_t_faultPlace v_t_long1 v_t_next0 v_t_sort v_t_place v_t_long0 v_t_value v_t_sign v_t_word v_t_newSongs v_t_newPeople v_t_newForgetsAt v_t_newFillsAt v_t_top v_t_firstValue v_t_lastValue v_t_waiting v_t_depth v_t_acts v_t_isWinter v_t_learntNow v_t_forgottenNow v_t_heardMany v_t_its0 v_t_hasImage v_t_imageActs v_t_imageHeard) H → va_S A s.heap H locs → narrow .boolean (.int rr) = .int rr → decode cX12_isWhat pc = .ok (.ireturn, 1) → W p l e rm_X12_isWhat s m ([.ref a_t, .int x1, .int x2] : List Value).toArray below meth c H locs 0 0 (MQ below (gs_QWA E A (w_X12_isWhat E a_t a_t_songLong a_t_firstNote a_t_wit a_t_code a_t_tape a_t_refused a_t_newSongLong a_t_newFirstNote a_t_newWit a_t_newRow a_t_readCode a_t_waits a_t_tested a_t_isTold a_t_rows a_t_ahead a_t_told a_t_pile a_t_common a_t_mostOf a_t_likes a_t_heard a_t_soon a_t_soonAll a_t_imageRow a_t_imageAhead a_t_imageHears o_t_thrown v_t_songs v_t_people v_t_forgetsAt v_t_fillsAt v_t_taped v_t_faultKind v_t_faultPlace v_t_long1 v_t_next0 v_t_sort v_t_place v_t_long0 v_t_value v_t_sign v_t_word v_t_newSongs v_t_newPeople v_t_newForgetsAt v_t_newFillsAt v_t_top v_t_firstValue v_t_lastValue v_t_waiting v_t_depth v_t_acts v_t_isWinter v_t_learntNow v_t_forgottenNow v_t_heardMany v_t_its0 v_t_hasImage v_t_imageActs v_t_imageHeard) (some (.int rr))) ([.ref a_t, .int x1, .int x2] : List Value).toArray s 0 0 A) (F0 m pc ls [.int rr]) := fun H locs pc ls hP hS hnar hd => W.zret hx hb hr hnar (fun t ht hW => ⟨rfl, by rw [ht]; exact hP, hS.F ht⟩) hS.2.2 hd
  have hl := lv_entry ([.ref a_t, .int x1, .int x2]) (n := 3) (Nat.le_of_ble_eq_true rfl)
  rw [lg_entry_eq]
  generalize (lg_sl ([.ref a_t, .int x1, .int x2]) ++ List.replicate (3 - (lg_sl ([.ref a_t, .int x1, .int x2])).length) Slot.unset).toArray = ls at hl ⊢
  have hl : lv_has ls 3 [(0, .ref a_t), (1, .int x1), (2, .int x2)] := hl
  unfold f_X12_isWhat at h
  refine lv_aload_n hx hb dX12_isWhat_0 rfl (lv_at hl 0 rfl) ?_
  refine lv_iload_n hx hb dX12_isWhat_1 rfl (lv_at hl 1 rfl) ?_
  refine lv_iconst (v := 0) hx hb dX12_isWhat_2 (by decide) ?_
  refine lv_iload_n hx hb dX12_isWhat_3 rfl (lv_at hl 2 rfl) ?_
  obtain ⟨r1, hz1, h⟩ := gs_b1_e h
  refine gs_backRi (va_runS (As := [.int x1, .int 0, .int x2]) (rest := [.ref a_t]) ⟨hx, hb, hml, hown, hts⟩ (c_X12_within l E x1 0 x2 r1 hz1) (va_cwS 3 hts gX12_isWhat_X12_within rfl rfl rfl (by decide +kernel) ⟨Nat.le_of_ble_eq_true rfl, Nat.le_of_ble_eq_true rfl⟩) (gs_pre hk hP hD (is := []) rfl rfl) rfl rfl hl.1 rfl (lv_room (Nat.le_of_ble_eq_true rfl)) dX12_isWhat_4 ⟨Nat.zero_le _, Nat.zero_le _⟩) ?_
  refine lv_iconst (v := 1) hx hb dX12_isWhat_7 (by decide) ?_
  obtain ⟨r2, o2_0, hz2, h⟩ := gs_b2_e h
  refine gs_backWi (ws1 := (w_X12_isWhat E a_t a_t_songLong a_t_firstNote a_t_wit a_t_code a_t_tape a_t_refused a_t_newSongLong a_t_newFirstNote a_t_newWit a_t_newRow a_t_readCode a_t_waits a_t_tested a_t_isTold a_t_rows a_t_ahead a_t_told a_t_pile a_t_common a_t_mostOf a_t_likes a_t_heard a_t_soon a_t_soonAll a_t_imageRow a_t_imageAhead a_t_imageHears o2_0 v_t_songs v_t_people v_t_forgetsAt v_t_fillsAt v_t_taped v_t_faultKind v_t_faultPlace v_t_long1 v_t_next0 v_t_sort v_t_place v_t_long0 v_t_value v_t_sign v_t_word v_t_newSongs v_t_newPeople v_t_newForgetsAt v_t_newFillsAt v_t_top v_t_firstValue v_t_lastValue v_t_waiting v_t_depth v_t_acts v_t_isWinter v_t_learntNow v_t_forgottenNow v_t_heardMany v_t_its0 v_t_hasImage v_t_imageActs v_t_imageHeard)) (va_runV (As := [.int r1, .int 1]) (rest := []) ⟨hx, hb, hml, hown, hts⟩ (c_X12_right l E a_t a_t_songLong a_t_firstNote a_t_wit a_t_code a_t_tape a_t_refused a_t_newSongLong a_t_newFirstNote a_t_newWit a_t_newRow a_t_readCode a_t_waits a_t_tested a_t_isTold a_t_rows a_t_ahead a_t_told a_t_pile a_t_common a_t_mostOf a_t_likes a_t_heard a_t_soon a_t_soonAll a_t_imageRow a_t_imageAhead a_t_imageHears v_t_thrown v_t_songs v_t_people v_t_forgetsAt v_t_fillsAt v_t_taped v_t_faultKind v_t_faultPlace v_t_long1 v_t_next0 v_t_sort v_t_place v_t_long0 v_t_value v_t_sign v_t_word v_t_newSongs v_t_newPeople v_t_newForgetsAt v_t_newFillsAt v_t_top v_t_firstValue v_t_lastValue v_t_waiting v_t_depth v_t_acts v_t_isWinter v_t_learntNow v_t_forgottenNow v_t_heardMany v_t_its0 v_t_hasImage v_t_imageActs v_t_imageHeard r1 1 r2 o2_0 hz2) (cwV 2 hts gX12_isWhat_X12_right rfl rfl rfl (by decide +kernel) ⟨Nat.le_of_ble_eq_true rfl, Nat.le_of_ble_eq_true rfl⟩) (gs_preV (ci := 12) hk hP hD (is := [0]) rfl rfl rfl rfl) rfl rfl hl.1 rfl (lv_room (Nat.le_of_ble_eq_true rfl)) dX12_isWhat_8 ⟨Nat.zero_le _, Nat.zero_le _⟩) hP hD hS [0] rfl rfl rfl rfl (fun H locs hP hD hS => ?_)
  obtain ⟨g3, h⟩ := gs_gd_e h
  have h := Option.some.inj h
  obtain ⟨w0, h⟩ := Prod.mk.inj h
  subst h
  subst w0
  exact hret _ _ _ _ hP hS (gs_bz_e g3) dX12_isWhat_11

set_option maxRecDepth 100000 in
theorem ggX12_isSoon_X12_within : GoodIn wsX12_isSoon wsX12_within := goodIn_r _ [4] rfl (by decide +kernel)
set_option maxRecDepth 100000 in
theorem gX12_isSoon_X12_within : GoodIn wsX12_isSoon (va_wsS RX12 356 yX12_within wsX12_within) := goodIn_app (goodIn_of _ (by decide +kernel)) ggX12_isSoon_X12_within
set_option maxRecDepth 100000 in
theorem ggX12_isSoon_X12_right : GoodIn wsX12_isSoon wsX12_right := goodIn_r _ [8, 9, 10, 11, 12, 13, 14, 15, 16, 17, 18, 19, 20, 21, 22, 23, 24, 25, 26, 27, 28, 29, 30, 31, 32, 33, 34, 35, 36, 37, 38, 39, 40, 41, 42, 43, 44, 45, 46, 47, 48, 49, 50, 51, 52, 53, 54, 55, 56, 57, 58, 59, 60, 61, 62, 63, 64, 65, 66, 67, 68, 69, 70] rfl (by decide +kernel)
set_option maxRecDepth 100000 in
theorem gX12_isSoon_X12_right : GoodIn wsX12_isSoon (wsV RX12 266 RX12 yX12_right wsX12_right) := goodIn_app (goodIn_of _ (by decide +kernel)) ggX12_isSoon_X12_right
theorem dX12_isSoon_0 : decode cX12_isSoon 0 = .ok (.aload_n 0, 1) := by decide +kernel
theorem dX12_isSoon_1 : decode cX12_isSoon 1 = .ok (.iload_n 1, 1) := by decide +kernel
theorem dX12_isSoon_2 : decode cX12_isSoon 2 = .ok (.iload_n 2, 1) := by decide +kernel
theorem dX12_isSoon_3 : decode cX12_isSoon 3 = .ok (.bipush 100, 2) := by decide +kernel
theorem dX12_isSoon_5 : decode cX12_isSoon 5 = .ok (.invokestatic 356, 3) := by decide +kernel
theorem dX12_isSoon_8 : decode cX12_isSoon 8 = .ok (.iload_n 3, 1) := by decide +kernel
theorem dX12_isSoon_9 : decode cX12_isSoon 9 = .ok (.invokevirtual 266, 3) := by decide +kernel
theorem dX12_isSoon_12 : decode cX12_isSoon 12 = .ok (.ireturn, 1) := by decide +kernel
abbrev w_X12_isSoon (E : gs_E) (a_t a_t_songLong a_t_firstNote a_t_wit a_t_code a_t_tape a_t_refused a_t_newSongLong a_t_newFirstNote a_t_newWit a_t_newRow a_t_readCode a_t_waits a_t_tested a_t_isTold a_t_rows a_t_ahead a_t_told a_t_pile a_t_common a_t_mostOf a_t_likes a_t_heard a_t_soon a_t_soonAll a_t_imageRow a_t_imageAhead a_t_imageHears : Nat) (v_t_thrown : Int32) (v_t_songs : Int32) (v_t_people : Int32) (v_t_forgetsAt : Int32) (v_t_fillsAt : Int32) (v_t_taped : Int32) (v_t_faultKind : Int32) (v_t_faultPlace : Int32) (v_t_long1 : Int32) (v_t_next0 : Int32) (v_t_sort : Int32) (v_t_place : Int32) (v_t_long0 : Int32) (v_t_value : Int32) (v_t_sign : Int32) (v_t_word : Int64) (v_t_newSongs : Int32) (v_t_newPeople : Int32) (v_t_newForgetsAt : Int32) (v_t_newFillsAt : Int32) (v_t_top : Int32) (v_t_firstValue : Int32) (v_t_lastValue : Int32) (v_t_waiting : Int32) (v_t_depth : Int32) (v_t_acts : Int32) (v_t_isWinter : Int32) (v_t_learntNow : Int32) (v_t_forgottenNow : Int32) (v_t_heardMany : Int32) (v_t_its0 : Int32) (v_t_hasImage : Int32) (v_t_imageActs : Int32) (v_t_imageHeard : Int32) : va_W := [(a_t, .inr (12, [.int v_t_thrown, .int v_t_songs, .int v_t_people, .int v_t_forgetsAt, .int v_t_fillsAt, .ref a_t_songLong, .ref a_t_firstNote, .ref a_t_wit, .ref a_t_code, .ref a_t_tape, .int v_t_taped, .int v_t_faultKind, .int v_t_faultPlace, .ref a_t_refused, .int v_t_long1, .int v_t_next0, .int v_t_sort, .int v_t_place, .int v_t_long0, .int v_t_value, .int v_t_sign, .long v_t_word, .int v_t_newSongs, .int v_t_newPeople, .int v_t_newForgetsAt, .int v_t_newFillsAt, .int v_t_top, .int v_t_firstValue, .int v_t_lastValue, .int v_t_waiting, .int v_t_depth, .ref a_t_newSongLong, .ref a_t_newFirstNote, .ref a_t_newWit, .ref a_t_newRow, .ref a_t_readCode, .ref a_t_waits, .ref a_t_tested, .ref a_t_isTold, .ref a_t_rows, .ref a_t_ahead, .int v_t_acts, .ref a_t_told, .ref a_t_pile, .int v_t_isWinter, .int v_t_learntNow, .int v_t_forgottenNow, .ref a_t_common, .ref a_t_mostOf, .ref a_t_likes, .int v_t_heardMany, .ref a_t_heard, .ref a_t_soon, .ref a_t_soonAll, .int v_t_its0, .int v_t_hasImage, .int v_t_imageActs, .int v_t_imageHeard, .ref a_t_imageRow, .ref a_t_imageAhead, .ref a_t_imageHears]))]
abbrev rm_X12_isSoon : Room := { frames := 1, cells := 0, slots := 0, locals := 22 }
def f_X12_isSoon (x1 : Int32) (x2 : Int32) (x3 : Int32) (v_t_thrown : Int32) : Option (Int32 × Int32) :=
  gs_b1 (f_X12_within x1 x2 100) fun r1 =>
  gs_b2 (f_X12_right r1 x3 v_t_thrown) fun r2 o2_0 =>
  gs_gd (gs_bz r2) <|
  some (r2, o2_0)
set_option maxHeartbeats 4000000 in
set_option maxRecDepth 100000 in
theorem c_X12_isSoon (l : Launch) (E : gs_E) (a_t a_t_songLong a_t_firstNote a_t_wit a_t_code a_t_tape a_t_refused a_t_newSongLong a_t_newFirstNote a_t_newWit a_t_newRow a_t_readCode a_t_waits a_t_tested a_t_isTold a_t_rows a_t_ahead a_t_told a_t_pile a_t_common a_t_mostOf a_t_likes a_t_heard a_t_soon a_t_soonAll a_t_imageRow a_t_imageAhead a_t_imageHears : Nat) (v_t_thrown : Int32) (v_t_songs : Int32) (v_t_people : Int32) (v_t_forgetsAt : Int32) (v_t_fillsAt : Int32) (v_t_taped : Int32) (v_t_faultKind : Int32) (v_t_faultPlace : Int32) (v_t_long1 : Int32) (v_t_next0 : Int32) (v_t_sort : Int32) (v_t_place : Int32) (v_t_long0 : Int32) (v_t_value : Int32) (v_t_sign : Int32) (v_t_word : Int64) (v_t_newSongs : Int32) (v_t_newPeople : Int32) (v_t_newForgetsAt : Int32) (v_t_newFillsAt : Int32) (v_t_top : Int32) (v_t_firstValue : Int32) (v_t_lastValue : Int32) (v_t_waiting : Int32) (v_t_depth : Int32) (v_t_acts : Int32) (v_t_isWinter : Int32) (v_t_learntNow : Int32) (v_t_forgottenNow : Int32) (v_t_heardMany : Int32) (v_t_its0 : Int32) (v_t_hasImage : Int32) (v_t_imageActs : Int32) (v_t_imageHeard : Int32) (x1 : Int32) (x2 : Int32) (x3 : Int32) (rr : Int32) (o_t_thrown : Int32) (h : f_X12_isSoon x1 x2 x3 v_t_thrown = some (rr, o_t_thrown)) : gs_MW l yX12_isSoon wsX12_isSoon rm_X12_isSoon [.ref a_t, .int x1, .int x2, .int x3] E (w_X12_isSoon E a_t a_t_songLong a_t_firstNote a_t_wit a_t_code a_t_tape a_t_refused a_t_newSongLong a_t_newFirstNote a_t_newWit a_t_newRow a_t_readCode a_t_waits a_t_tested a_t_isTold a_t_rows a_t_ahead a_t_told a_t_pile a_t_common a_t_mostOf a_t_likes a_t_heard a_t_soon a_t_soonAll a_t_imageRow a_t_imageAhead a_t_imageHears v_t_thrown v_t_songs v_t_people v_t_forgetsAt v_t_fillsAt v_t_taped v_t_faultKind v_t_faultPlace v_t_long1 v_t_next0 v_t_sort v_t_place v_t_long0 v_t_value v_t_sign v_t_word v_t_newSongs v_t_newPeople v_t_newForgetsAt v_t_newFillsAt v_t_top v_t_firstValue v_t_lastValue v_t_waiting v_t_depth v_t_acts v_t_isWinter v_t_learntNow v_t_forgottenNow v_t_heardMany v_t_its0 v_t_hasImage v_t_imageActs v_t_imageHeard) (w_X12_isSoon E a_t a_t_songLong a_t_firstNote a_t_wit a_t_code a_t_tape a_t_refused a_t_newSongLong a_t_newFirstNote a_t_newWit a_t_newRow a_t_readCode a_t_waits a_t_tested a_t_isTold a_t_rows a_t_ahead a_t_told a_t_pile a_t_common a_t_mostOf a_t_likes a_t_heard a_t_soon a_t_soonAll a_t_imageRow a_t_imageAhead a_t_imageHears o_t_thrown v_t_songs v_t_people v_t_forgetsAt v_t_fillsAt v_t_taped v_t_faultKind v_t_faultPlace v_t_long1 v_t_next0 v_t_sort v_t_place v_t_long0 v_t_value v_t_sign v_t_word v_t_newSongs v_t_newPeople v_t_newForgetsAt v_t_newFillsAt v_t_top v_t_firstValue v_t_lastValue v_t_waiting v_t_depth v_t_acts v_t_isWinter v_t_learntNow v_t_forgottenNow v_t_heardMany v_t_its0 v_t_hasImage v_t_imageActs v_t_imageHeard) (some (.int rr)) := by
  refine Met.ofW (cc := cX12_isSoon) (maxL := 4) (ret := (some .boolean)) (by decide) rfl ?_
  intro p e s m args below meth c s₁ B hml hv
  obtain ⟨rfl, hP, hk, hD0⟩ := hv
  have X0 : gs_X wsX12_isSoon cX12_isSoon RX12 4 (some .boolean) p s m ([.ref a_t, .int x1, .int x2, .int x3] : List Value).toArray meth c := gs_X.of B hml
  obtain ⟨hx, hb, -, hown, hts, hr, hlk⟩ := id X0
  have hD := (gs_D_self hD0)
  generalize hAe : gs_w (w_X12_isSoon E a_t a_t_songLong a_t_firstNote a_t_wit a_t_code a_t_tape a_t_refused a_t_newSongLong a_t_newFirstNote a_t_newWit a_t_newRow a_t_readCode a_t_waits a_t_tested a_t_isTold a_t_rows a_t_ahead a_t_told a_t_pile a_t_common a_t_mostOf a_t_likes a_t_heard a_t_soon a_t_soonAll a_t_imageRow a_t_imageAhead a_t_imageHears v_t_thrown v_t_songs v_t_people v_t_forgetsAt v_t_fillsAt v_t_taped v_t_faultKind v_t_faultPlace v_t_long1 v_t_next0 v_t_sort v_t_place v_t_long0 v_t_value v_t_sign v_t_word v_t_newSongs v_t_newPeople v_t_newForgetsAt v_t_newFillsAt v_t_top v_t_firstValue v_t_lastValue v_t_waiting v_t_depth v_t_acts v_t_isWinter v_t_learntNow v_t_forgottenNow v_t_heardMany v_t_its0 v_t_hasImage v_t_imageActs v_t_imageHeard) = A at hD ⊢
  have hS : va_S A s.heap s.heap [] := va_S.rf
  have hret : ∀ (H : Heap) (locs : List Loc) (pc : Nat) (ls : Array Slot), va_P E.1 vwCl (w_X12_isSoon E a_t a_t_songLong a_t_firstNote a_t_wit a_t_code a_t_tape a_t_refused a_t_newSongLong a_t_newFirstNote a_t_newWit a_t_newRow a_t_readCode a_t_waits a_t_tested a_t_isTold a_t_rows a_t_ahead a_t_told a_t_pile a_t_common a_t_mostOf a_t_likes a_t_heard a_t_soon a_t_soonAll a_t_imageRow a_t_imageAhead a_t_imageHears o_t_thrown v_t_songs v_t_people v_t_forgetsAt v_t_fillsAt v_t_taped v_t_faultKind v_t_faultPlace v_t_long1 v_t_next0 v_t_sort v_t_place v_t_long0 v_t_value v_t_sign v_t_word v_t_newSongs v_t_newPeople v_t_newForgetsAt v_t_newFillsAt v_t_top v_t_firstValue v_t_lastValue v_t_waiting v_t_depth v_t_acts v_t_isWinter v_t_learntNow v_t_forgottenNow v_t_heardMany v_t_its0 v_t_hasImage v_t_imageActs v_t_imageHeard) H → va_S A s.heap H locs → narrow .boolean (.int rr) = .int rr → decode cX12_isSoon pc = .ok (.ireturn, 1) → W p l e rm_X12_isSoon s m ([.ref a_t, .int x1, .int x2, .int x3] : List Value).toArray below meth c H locs 0 0 (MQ below (gs_QWA E A (w_X12_isSoon E a_t a_t_songLong a_t_firstNote a_t_wit a_t_code a_t_tape a_t_refused a_t_newSongLong a_t_newFirstNote a_t_newWit a_t_newRow a_t_readCode a_t_waits a_t_tested a_t_isTold a_t_rows a_t_ahead a_t_told a_t_pile a_t_common a_t_mostOf a_t_likes a_t_heard a_t_soon a_t_soonAll a_t_imageRow a_t_imageAhead a_t_imageHears o_t_thrown v_t_songs v_t_people v_t_forgetsAt v_t_fillsAt v_t_taped v_t_faultKind v_t_faultPlace v_t_long1 v_t_next0 v_t_sort v_t_place v_t_long0 v_t_value v_t_sign v_t_word v_t_newSongs v_t_newPeople v_t_newForgetsAt v_t_newFillsAt v_t_top v_t_firstValue v_t_lastValue v_t_waiting v_t_depth v_t_acts v_t_isWinter v_t_learntNow v_t_forgottenNow v_t_heardMany v_t_its0 v_t_hasImage v_t_imageActs v_t_imageHeard) (some (.int rr))) ([.ref a_t, .int x1, .int x2, .int x3] : List Value).toArray s 0 0 A) (F0 m pc ls [.int rr]) := fun H locs pc ls hP hS hnar hd => W.zret hx hb hr hnar (fun t ht hW => ⟨rfl, by rw [ht]; exact hP, hS.F ht⟩) hS.2.2 hd
  have hl := lv_entry ([.ref a_t, .int x1, .int x2, .int x3]) (n := 4) (Nat.le_of_ble_eq_true rfl)
  rw [lg_entry_eq]
  generalize (lg_sl ([.ref a_t, .int x1, .int x2, .int x3]) ++ List.replicate (4 - (lg_sl ([.ref a_t, .int x1, .int x2, .int x3])).length) Slot.unset).toArray = ls at hl ⊢
  have hl : lv_has ls 4 [(0, .ref a_t), (1, .int x1), (2, .int x2), (3, .int x3)] := hl
  unfold f_X12_isSoon at h
  refine lv_aload_n hx hb dX12_isSoon_0 rfl (lv_at hl 0 rfl) ?_
  refine lv_iload_n hx hb dX12_isSoon_1 rfl (lv_at hl 1 rfl) ?_
  refine lv_iload_n hx hb dX12_isSoon_2 rfl (lv_at hl 2 rfl) ?_
  refine lv_bipush (v := 100) hx hb dX12_isSoon_3 (by decide) ?_
  obtain ⟨r1, hz1, h⟩ := gs_b1_e h
  refine gs_backRi (va_runS (As := [.int x1, .int x2, .int 100]) (rest := [.ref a_t]) ⟨hx, hb, hml, hown, hts⟩ (c_X12_within l E x1 x2 100 r1 hz1) (va_cwS 3 hts gX12_isSoon_X12_within rfl rfl rfl (by decide +kernel) ⟨Nat.le_of_ble_eq_true rfl, Nat.le_of_ble_eq_true rfl⟩) (gs_pre hk hP hD (is := []) rfl rfl) rfl rfl hl.1 rfl (lv_room (Nat.le_of_ble_eq_true rfl)) dX12_isSoon_5 ⟨Nat.zero_le _, Nat.zero_le _⟩) ?_
  refine lv_iload_n hx hb dX12_isSoon_8 rfl (lv_at hl 3 rfl) ?_
  obtain ⟨r2, o2_0, hz2, h⟩ := gs_b2_e h
  refine gs_backWi (ws1 := (w_X12_isSoon E a_t a_t_songLong a_t_firstNote a_t_wit a_t_code a_t_tape a_t_refused a_t_newSongLong a_t_newFirstNote a_t_newWit a_t_newRow a_t_readCode a_t_waits a_t_tested a_t_isTold a_t_rows a_t_ahead a_t_told a_t_pile a_t_common a_t_mostOf a_t_likes a_t_heard a_t_soon a_t_soonAll a_t_imageRow a_t_imageAhead a_t_imageHears o2_0 v_t_songs v_t_people v_t_forgetsAt v_t_fillsAt v_t_taped v_t_faultKind v_t_faultPlace v_t_long1 v_t_next0 v_t_sort v_t_place v_t_long0 v_t_value v_t_sign v_t_word v_t_newSongs v_t_newPeople v_t_newForgetsAt v_t_newFillsAt v_t_top v_t_firstValue v_t_lastValue v_t_waiting v_t_depth v_t_acts v_t_isWinter v_t_learntNow v_t_forgottenNow v_t_heardMany v_t_its0 v_t_hasImage v_t_imageActs v_t_imageHeard)) (va_runV (As := [.int r1, .int x3]) (rest := []) ⟨hx, hb, hml, hown, hts⟩ (c_X12_right l E a_t a_t_songLong a_t_firstNote a_t_wit a_t_code a_t_tape a_t_refused a_t_newSongLong a_t_newFirstNote a_t_newWit a_t_newRow a_t_readCode a_t_waits a_t_tested a_t_isTold a_t_rows a_t_ahead a_t_told a_t_pile a_t_common a_t_mostOf a_t_likes a_t_heard a_t_soon a_t_soonAll a_t_imageRow a_t_imageAhead a_t_imageHears v_t_thrown v_t_songs v_t_people v_t_forgetsAt v_t_fillsAt v_t_taped v_t_faultKind v_t_faultPlace v_t_long1 v_t_next0 v_t_sort v_t_place v_t_long0 v_t_value v_t_sign v_t_word v_t_newSongs v_t_newPeople v_t_newForgetsAt v_t_newFillsAt v_t_top v_t_firstValue v_t_lastValue v_t_waiting v_t_depth v_t_acts v_t_isWinter v_t_learntNow v_t_forgottenNow v_t_heardMany v_t_its0 v_t_hasImage v_t_imageActs v_t_imageHeard r1 x3 r2 o2_0 hz2) (cwV 2 hts gX12_isSoon_X12_right rfl rfl rfl (by decide +kernel) ⟨Nat.le_of_ble_eq_true rfl, Nat.le_of_ble_eq_true rfl⟩) (gs_preV (ci := 12) hk hP hD (is := [0]) rfl rfl rfl rfl) rfl rfl hl.1 rfl (lv_room (Nat.le_of_ble_eq_true rfl)) dX12_isSoon_9 ⟨Nat.zero_le _, Nat.zero_le _⟩) hP hD hS [0] rfl rfl rfl rfl (fun H locs hP hD hS => ?_)
  obtain ⟨g3, h⟩ := gs_gd_e h
  have h := Option.some.inj h
  obtain ⟨w0, h⟩ := Prod.mk.inj h
  subst h
  subst w0
  exact hret _ _ _ _ hP hS (gs_bz_e g3) dX12_isSoon_12

set_option maxRecDepth 100000 in
theorem ggX12_wholeOnes_X12_doesHave : GoodIn wsX12_wholeOnes wsX12_doesHave := goodIn_r _ [6, 7, 16, 17, 18, 19, 20, 21, 22, 23, 24, 25, 26, 27, 28, 29, 30, 31, 32, 33, 34, 35, 36, 37, 38, 39, 40, 41, 42, 43, 44, 45, 46, 47, 48, 49, 50, 51, 52, 53, 54, 55, 56, 57, 58, 59, 60, 61, 62, 63, 64, 65, 66, 67, 68, 69, 70, 71, 72, 73, 74, 75, 76] rfl (by decide +kernel)
set_option maxRecDepth 100000 in
theorem gX12_wholeOnes_X12_doesHave : GoodIn wsX12_wholeOnes (wsV RX12 297 RX12 yX12_doesHave wsX12_doesHave) := goodIn_app (goodIn_of _ (by decide +kernel)) ggX12_wholeOnes_X12_doesHave
set_option maxRecDepth 100000 in
theorem ggX12_wholeOnes_X12_gapsIn : GoodIn wsX12_wholeOnes wsX12_gapsIn := goodIn_r _ [11, 12, 7, 13, 14, 5, 15, 16, 17, 18, 19, 20, 21, 22, 23, 24, 25, 26, 27, 28, 29, 30, 31, 32, 33, 34, 35, 36, 37, 38, 39, 40, 41, 42, 43, 44, 45, 46, 47, 48, 49, 50, 51, 52, 53, 54, 55, 56, 57, 58, 59, 60, 61, 62, 63, 64, 65, 66, 67, 68, 69, 70, 71, 72, 73, 74, 75, 76] rfl (by decide +kernel)
set_option maxRecDepth 100000 in
theorem gX12_wholeOnes_X12_gapsIn : GoodIn wsX12_wholeOnes (wsV RX12 304 RX12 yX12_gapsIn wsX12_gapsIn) := goodIn_app (goodIn_of _ (by decide +kernel)) ggX12_wholeOnes_X12_gapsIn
theorem dX12_wholeOnes_0 : decode cX12_wholeOnes 0 = .ok (.iconst 0, 1) := by decide +kernel
theorem dX12_wholeOnes_1 : decode cX12_wholeOnes 1 = .ok (.istore_n 3, 1) := by decide +kernel
theorem dX12_wholeOnes_2 : decode cX12_wholeOnes 2 = .ok (.iconst 0, 1) := by decide +kernel
theorem dX12_wholeOnes_3 : decode cX12_wholeOnes 3 = .ok (.istore 4, 2) := by decide +kernel
theorem dX12_wholeOnes_5 : decode cX12_wholeOnes 5 = .ok (.iload 4, 2) := by decide +kernel
theorem dX12_wholeOnes_7 : decode cX12_wholeOnes 7 = .ok (.aload_n 0, 1) := by decide +kernel
theorem dX12_wholeOnes_8 : decode cX12_wholeOnes 8 = .ok (.getfield 276, 3) := by decide +kernel
theorem dX12_wholeOnes_11 : decode cX12_wholeOnes 11 = .ok (.if_icmp .ge 42, 3) := by decide +kernel
theorem dX12_wholeOnes_14 : decode cX12_wholeOnes 14 = .ok (.iload_n 3, 1) := by decide +kernel
theorem dX12_wholeOnes_15 : decode cX12_wholeOnes 15 = .ok (.aload_n 0, 1) := by decide +kernel
theorem dX12_wholeOnes_16 : decode cX12_wholeOnes 16 = .ok (.iload_n 1, 1) := by decide +kernel
theorem dX12_wholeOnes_17 : decode cX12_wholeOnes 17 = .ok (.iload 4, 2) := by decide +kernel
theorem dX12_wholeOnes_19 : decode cX12_wholeOnes 19 = .ok (.iload_n 2, 1) := by decide +kernel
theorem dX12_wholeOnes_20 : decode cX12_wholeOnes 20 = .ok (.invokevirtual 297, 3) := by decide +kernel
theorem dX12_wholeOnes_23 : decode cX12_wholeOnes 23 = .ok (.ifCond .eq 21, 3) := by decide +kernel
theorem dX12_wholeOnes_26 : decode cX12_wholeOnes 26 = .ok (.aload_n 0, 1) := by decide +kernel
theorem dX12_wholeOnes_27 : decode cX12_wholeOnes 27 = .ok (.iload_n 1, 1) := by decide +kernel
theorem dX12_wholeOnes_28 : decode cX12_wholeOnes 28 = .ok (.iload 4, 2) := by decide +kernel
theorem dX12_wholeOnes_30 : decode cX12_wholeOnes 30 = .ok (.iload_n 2, 1) := by decide +kernel
theorem dX12_wholeOnes_31 : decode cX12_wholeOnes 31 = .ok (.invokevirtual 304, 3) := by decide +kernel
theorem dX12_wholeOnes_34 : decode cX12_wholeOnes 34 = .ok (.ifCond .ne 10, 3) := by decide +kernel
theorem dX12_wholeOnes_37 : decode cX12_wholeOnes 37 = .ok (.iconst 1, 1) := by decide +kernel
theorem dX12_wholeOnes_38 : decode cX12_wholeOnes 38 = .ok (.iload 4, 2) := by decide +kernel
theorem dX12_wholeOnes_40 : decode cX12_wholeOnes 40 = .ok (.ishl, 1) := by decide +kernel
theorem dX12_wholeOnes_41 : decode cX12_wholeOnes 41 = .ok (.goto 4, 3) := by decide +kernel
theorem dX12_wholeOnes_44 : decode cX12_wholeOnes 44 = .ok (.iconst 0, 1) := by decide +kernel
theorem dX12_wholeOnes_45 : decode cX12_wholeOnes 45 = .ok (.ior, 1) := by decide +kernel
theorem dX12_wholeOnes_46 : decode cX12_wholeOnes 46 = .ok (.istore_n 3, 1) := by decide +kernel
theorem dX12_wholeOnes_47 : decode cX12_wholeOnes 47 = .ok (.iinc 4 1, 3) := by decide +kernel
theorem dX12_wholeOnes_50 : decode cX12_wholeOnes 50 = .ok (.goto (-45), 3) := by decide +kernel
theorem dX12_wholeOnes_53 : decode cX12_wholeOnes 53 = .ok (.iload_n 3, 1) := by decide +kernel
theorem dX12_wholeOnes_54 : decode cX12_wholeOnes 54 = .ok (.ireturn, 1) := by decide +kernel
abbrev w_X12_wholeOnes (E : gs_E) (a_t a_t_songLong a_t_rows a_t_firstNote a_t_wit a_t_code a_t_tape a_t_refused a_t_newSongLong a_t_newFirstNote a_t_newWit a_t_newRow a_t_readCode a_t_waits a_t_tested a_t_isTold a_t_ahead a_t_told a_t_pile a_t_common a_t_mostOf a_t_likes a_t_heard a_t_soon a_t_soonAll a_t_imageRow a_t_imageAhead a_t_imageHears : Nat) (v_t_thrown : Int32) (v_t_songs : Int32) (v_t_people : Int32) (v_t_forgetsAt : Int32) (v_t_fillsAt : Int32) (v_t_taped : Int32) (v_t_faultKind : Int32) (v_t_faultPlace : Int32) (v_t_long1 : Int32) (v_t_next0 : Int32) (v_t_sort : Int32) (v_t_place : Int32) (v_t_long0 : Int32) (v_t_value : Int32) (v_t_sign : Int32) (v_t_word : Int64) (v_t_newSongs : Int32) (v_t_newPeople : Int32) (v_t_newForgetsAt : Int32) (v_t_newFillsAt : Int32) (v_t_top : Int32) (v_t_firstValue : Int32) (v_t_lastValue : Int32) (v_t_waiting : Int32) (v_t_depth : Int32) (v_t_acts : Int32) (v_t_isWinter : Int32) (v_t_learntNow : Int32) (v_t_forgottenNow : Int32) (v_t_heardMany : Int32) (v_t_its0 : Int32) (v_t_hasImage : Int32) (v_t_imageActs : Int32) (v_t_imageHeard : Int32) (r_t_songLong : Nat → Int32) (r_t_rows : Nat → Int32) : va_W := [(a_t, .inr (12, [.int v_t_thrown, .int v_t_songs, .int v_t_people, .int v_t_forgetsAt, .int v_t_fillsAt, .ref a_t_songLong, .ref a_t_firstNote, .ref a_t_wit, .ref a_t_code, .ref a_t_tape, .int v_t_taped, .int v_t_faultKind, .int v_t_faultPlace, .ref a_t_refused, .int v_t_long1, .int v_t_next0, .int v_t_sort, .int v_t_place, .int v_t_long0, .int v_t_value, .int v_t_sign, .long v_t_word, .int v_t_newSongs, .int v_t_newPeople, .int v_t_newForgetsAt, .int v_t_newFillsAt, .int v_t_top, .int v_t_firstValue, .int v_t_lastValue, .int v_t_waiting, .int v_t_depth, .ref a_t_newSongLong, .ref a_t_newFirstNote, .ref a_t_newWit, .ref a_t_newRow, .ref a_t_readCode, .ref a_t_waits, .ref a_t_tested, .ref a_t_isTold, .ref a_t_rows, .ref a_t_ahead, .int v_t_acts, .ref a_t_told, .ref a_t_pile, .int v_t_isWinter, .int v_t_learntNow, .int v_t_forgottenNow, .ref a_t_common, .ref a_t_mostOf, .ref a_t_likes, .int v_t_heardMany, .ref a_t_heard, .ref a_t_soon, .ref a_t_soonAll, .int v_t_its0, .int v_t_hasImage, .int v_t_imageActs, .int v_t_imageHeard, .ref a_t_imageRow, .ref a_t_imageAhead, .ref a_t_imageHears])), (a_t_songLong, .inl (E.2.1, 5, .inl r_t_songLong)), (a_t_rows, .inl (E.2.1, 744, .inl r_t_rows))]
abbrev rm_X12_wholeOnes : Room := { frames := 2, cells := 0, slots := 0, locals := 47 }
def S_X12_wholeOnes_5 (p : Program) (l : Launch) (e : Env) (s : State) (m : MethodId) (args : Array Value) (below : List Frame) (meth : Method) (c : Code) (Q : State → Prop) (a_t a_t_songLong a_t_rows a_t_firstNote a_t_wit a_t_code a_t_tape a_t_refused a_t_newSongLong a_t_newFirstNote a_t_newWit a_t_newRow a_t_readCode a_t_waits a_t_tested a_t_isTold a_t_ahead a_t_told a_t_pile a_t_common a_t_mostOf a_t_likes a_t_heard a_t_soon a_t_soonAll a_t_imageRow a_t_imageAhead a_t_imageHears : Nat) (x1 : Int32) (x2 : Int32) (x3 : Int32) (x4 : Int32) : Prop := ∀ (ls : Array Slot), lv_has ls 5 [(0, .ref a_t), (1, .int x1), (2, .int x2), (3, .int x3), (4, .int x4)] → W p l e rm_X12_wholeOnes s m args below meth c s.heap [] 0 0 Q (F0 m 5 ls [])
def f_X12_wholeOnes_5 (x1 : Int32) (x2 : Int32) (v_t_people : Int32) (r_t_songLong : Nat → Int32) (r_t_rows : Nat → Int32) (K5 : Int32 → Int32 → Option (Int32)) (x3 : Int32) (x4 : Int32) : Option (Int32) :=
  if v_t_people ≤ x4 then
    some x3
  else
    gs_b1 (f_X12_doesHave x1 x4 x2 r_t_rows) fun r2 =>
    if r2 = 0 then
      K5 (x3 ||| 0) (x4 + 1)
    else
      gs_b1 (f_X12_gapsIn x1 x4 x2 r_t_songLong r_t_rows) fun r4 =>
      if r4 = 0 then
        K5 (x3 ||| (1 <<< (x4 &&& 31))) (x4 + 1)
      else
        K5 (x3 ||| 0) (x4 + 1)
set_option maxHeartbeats 4000000 in
set_option maxRecDepth 100000 in
theorem t_X12_wholeOnes_5_b {p : Program} {l : Launch} {e : Env} {s : State} {m : MethodId} {args : Array Value} {below : List Frame} {meth : Method} {c : Code} {Q : State → Prop} {E : gs_E} {a_t a_t_songLong a_t_rows a_t_firstNote a_t_wit a_t_code a_t_tape a_t_refused a_t_newSongLong a_t_newFirstNote a_t_newWit a_t_newRow a_t_readCode a_t_waits a_t_tested a_t_isTold a_t_ahead a_t_told a_t_pile a_t_common a_t_mostOf a_t_likes a_t_heard a_t_soon a_t_soonAll a_t_imageRow a_t_imageAhead a_t_imageHears : Nat} {v_t_thrown : Int32} {v_t_songs : Int32} {v_t_people : Int32} {v_t_forgetsAt : Int32} {v_t_fillsAt : Int32} {v_t_taped : Int32} {v_t_faultKind : Int32} {v_t_faultPlace : Int32} {v_t_long1 : Int32} {v_t_next0 : Int32} {v_t_sort : Int32} {v_t_place : Int32} {v_t_long0 : Int32} {v_t_value : Int32} {v_t_sign : Int32} {v_t_word : Int64} {v_t_newSongs : Int32} {v_t_newPeople : Int32} {v_t_newForgetsAt : Int32} {v_t_newFillsAt : Int32} {v_t_top : Int32} {v_t_firstValue : Int32} {v_t_lastValue : Int32} {v_t_waiting : Int32} {v_t_depth : Int32} {v_t_acts : Int32} {v_t_isWinter : Int32} {v_t_learntNow : Int32} {v_t_forgottenNow : Int32} {v_t_heardMany : Int32} {v_t_its0 : Int32} {v_t_hasImage : Int32} {v_t_imageActs : Int32} {v_t_imageHeard : Int32} {r_t_songLong : Nat → Int32} {r_t_rows : Nat → Int32} {rr : Int32} (X0 : gs_X wsX12_wholeOnes cX12_wholeOnes RX12 5 (some .int) p s m args meth c) (hk : gs_K E s) (hP : va_P E.1 vwCl (w_X12_wholeOnes E a_t a_t_songLong a_t_rows a_t_firstNote a_t_wit a_t_code a_t_tape a_t_refused a_t_newSongLong a_t_newFirstNote a_t_newWit a_t_newRow a_t_readCode a_t_waits a_t_tested a_t_isTold a_t_ahead a_t_told a_t_pile a_t_common a_t_mostOf a_t_likes a_t_heard a_t_soon a_t_soonAll a_t_imageRow a_t_imageAhead a_t_imageHears v_t_thrown v_t_songs v_t_people v_t_forgetsAt v_t_fillsAt v_t_taped v_t_faultKind v_t_faultPlace v_t_long1 v_t_next0 v_t_sort v_t_place v_t_long0 v_t_value v_t_sign v_t_word v_t_newSongs v_t_newPeople v_t_newForgetsAt v_t_newFillsAt v_t_top v_t_firstValue v_t_lastValue v_t_waiting v_t_depth v_t_acts v_t_isWinter v_t_learntNow v_t_forgottenNow v_t_heardMany v_t_its0 v_t_hasImage v_t_imageActs v_t_imageHeard r_t_songLong r_t_rows) s.heap) (hD : va_D (fun _ => True) (w_X12_wholeOnes E a_t a_t_songLong a_t_rows a_t_firstNote a_t_wit a_t_code a_t_tape a_t_refused a_t_newSongLong a_t_newFirstNote a_t_newWit a_t_newRow a_t_readCode a_t_waits a_t_tested a_t_isTold a_t_ahead a_t_told a_t_pile a_t_common a_t_mostOf a_t_likes a_t_heard a_t_soon a_t_soonAll a_t_imageRow a_t_imageAhead a_t_imageHears v_t_thrown v_t_songs v_t_people v_t_forgetsAt v_t_fillsAt v_t_taped v_t_faultKind v_t_faultPlace v_t_long1 v_t_next0 v_t_sort v_t_place v_t_long0 v_t_value v_t_sign v_t_word v_t_newSongs v_t_newPeople v_t_newForgetsAt v_t_newFillsAt v_t_top v_t_firstValue v_t_lastValue v_t_waiting v_t_depth v_t_acts v_t_isWinter v_t_learntNow v_t_forgottenNow v_t_heardMany v_t_its0 v_t_hasImage v_t_imageActs v_t_imageHeard r_t_songLong r_t_rows)) {x1 : Int32} {x2 : Int32} {x3 : Int32} {x4 : Int32} (hret : ∀ (pc : Nat) (ls : Array Slot), decode cX12_wholeOnes pc = .ok (.ireturn, 1) → W p l e rm_X12_wholeOnes s m args below meth c s.heap [] 0 0 Q (F0 m pc ls [.int rr])) {K5 : Int32 → Int32 → Option (Int32)} (hK5 : ∀ (x3 : Int32) (x4 : Int32), K5 x3 x4 = some rr → S_X12_wholeOnes_5 p l e s m args below meth c Q a_t a_t_songLong a_t_rows a_t_firstNote a_t_wit a_t_code a_t_tape a_t_refused a_t_newSongLong a_t_newFirstNote a_t_newWit a_t_newRow a_t_readCode a_t_waits a_t_tested a_t_isTold a_t_ahead a_t_told a_t_pile a_t_common a_t_mostOf a_t_likes a_t_heard a_t_soon a_t_soonAll a_t_imageRow a_t_imageAhead a_t_imageHears x1 x2 x3 x4) (h : f_X12_wholeOnes_5 x1 x2 v_t_people r_t_songLong r_t_rows K5 x3 x4 = some rr) : S_X12_wholeOnes_5 p l e s m args below meth c Q a_t a_t_songLong a_t_rows a_t_firstNote a_t_wit a_t_code a_t_tape a_t_refused a_t_newSongLong a_t_newFirstNote a_t_newWit a_t_newRow a_t_readCode a_t_waits a_t_tested a_t_isTold a_t_ahead a_t_told a_t_pile a_t_common a_t_mostOf a_t_likes a_t_heard a_t_soon a_t_soonAll a_t_imageRow a_t_imageAhead a_t_imageHears x1 x2 x3 x4 := by
  obtain ⟨hx, hb, hml, hown, hts, hr, hlk⟩ := id X0
  intro ls hl
  unfold f_X12_wholeOnes_5 at h
  refine lv_iload hx hb dX12_wholeOnes_5 (lv_at hl 4 rfl) ?_
  refine lv_aload_n hx hb dX12_wholeOnes_7 rfl (lv_at hl 0 rfl) ?_
  refine va_get (D := E.1) (ci := 12) (v := .int v_t_people) (C := RX12) (T := TX12) (N := 61) hx hb hts (fun _ h => (List.mem_cons_of_mem _ (List.mem_append_right _ h))) hown hk.1 hP 0 rfl rfl 2 (by decide) (hts (.fieldLink RX12 276 "GapSongsModel" "people" "I") (List.mem_cons_of_mem _ (List.mem_append_left _ (List.mem_of_getElem? (i := 0) rfl)))) (fun _ h9 => h9) rfl dX12_wholeOnes_8 ?_
  refine lv_icmp_ge (tgt := 53) hx hb dX12_wholeOnes_11 (by decide) (fun c1 => ?_) (fun c1 => ?_)
  · replace h := gs_ift c1 h
    refine lv_iload_n hx hb dX12_wholeOnes_53 rfl (lv_at hl 3 rfl) ?_
    have h := Option.some.inj h
    subst h
    exact hret _ _ dX12_wholeOnes_54
  · replace h := gs_iff c1 h
    refine lv_iload_n hx hb dX12_wholeOnes_14 rfl (lv_at hl 3 rfl) ?_
    refine lv_aload_n hx hb dX12_wholeOnes_15 rfl (lv_at hl 0 rfl) ?_
    refine lv_iload_n hx hb dX12_wholeOnes_16 rfl (lv_at hl 1 rfl) ?_
    refine lv_iload hx hb dX12_wholeOnes_17 (lv_at hl 4 rfl) ?_
    refine lv_iload_n hx hb dX12_wholeOnes_19 rfl (lv_at hl 2 rfl) ?_
    obtain ⟨r2, hz2, h⟩ := gs_b1_e h
    refine gs_backRi (va_runV (As := [.int x1, .int x4, .int x2]) (rest := [.int x3]) ⟨hx, hb, hml, hown, hts⟩ (c_X12_doesHave l E a_t a_t_rows a_t_songLong a_t_firstNote a_t_wit a_t_code a_t_tape a_t_refused a_t_newSongLong a_t_newFirstNote a_t_newWit a_t_newRow a_t_readCode a_t_waits a_t_tested a_t_isTold a_t_ahead a_t_told a_t_pile a_t_common a_t_mostOf a_t_likes a_t_heard a_t_soon a_t_soonAll a_t_imageRow a_t_imageAhead a_t_imageHears v_t_thrown v_t_songs v_t_people v_t_forgetsAt v_t_fillsAt v_t_taped v_t_faultKind v_t_faultPlace v_t_long1 v_t_next0 v_t_sort v_t_place v_t_long0 v_t_value v_t_sign v_t_word v_t_newSongs v_t_newPeople v_t_newForgetsAt v_t_newFillsAt v_t_top v_t_firstValue v_t_lastValue v_t_waiting v_t_depth v_t_acts v_t_isWinter v_t_learntNow v_t_forgottenNow v_t_heardMany v_t_its0 v_t_hasImage v_t_imageActs v_t_imageHeard r_t_rows x1 x4 x2 r2 hz2) (cwV 3 hts gX12_wholeOnes_X12_doesHave rfl rfl rfl (by decide +kernel) ⟨Nat.le_of_ble_eq_true rfl, Nat.le_of_ble_eq_true rfl⟩) (gs_preV (ci := 12) hk hP hD (is := [0, 2]) rfl rfl rfl rfl) rfl rfl hl.1 rfl (lv_room (Nat.le_of_ble_eq_true rfl)) dX12_wholeOnes_20 ⟨Nat.zero_le _, Nat.zero_le _⟩) ?_
    refine lv_if_eq (tgt := 44) hx hb dX12_wholeOnes_23 (by decide) (fun c3 => ?_) (fun c3 => ?_)
    · replace h := gs_ift c3 h
      refine lv_iconst (v := 0) hx hb dX12_wholeOnes_44 (by decide) ?_
      refine lv_ior hx hb dX12_wholeOnes_45 ?_
      refine lv_istore_n (lv' := [(3, .int (x3 ||| 0)), (0, .ref a_t), (1, .int x1), (2, .int x2), (4, .int x4)]) hx hb dX12_wholeOnes_46 rfl hl (by decide) rfl (fun ls hl => ?_)
      refine lv_iinc (v := x4 + 1) (lv' := [(4, .int (x4 + 1)), (3, .int (x3 ||| 0)), (0, .ref a_t), (1, .int x1), (2, .int x2)]) hx hb dX12_wholeOnes_47 hl (k := 4) rfl rfl (by decide) rfl (fun ls hl => ?_)
      refine lv_goto (tgt := 5) hx hb dX12_wholeOnes_50 (by decide) ?_
      exact hK5 (x3 ||| 0) (x4 + 1) h _ (lv_sub hl [2, 3, 4, 1, 0] rfl)
    · replace h := gs_iff c3 h
      refine lv_aload_n hx hb dX12_wholeOnes_26 rfl (lv_at hl 0 rfl) ?_
      refine lv_iload_n hx hb dX12_wholeOnes_27 rfl (lv_at hl 1 rfl) ?_
      refine lv_iload hx hb dX12_wholeOnes_28 (lv_at hl 4 rfl) ?_
      refine lv_iload_n hx hb dX12_wholeOnes_30 rfl (lv_at hl 2 rfl) ?_
      obtain ⟨r4, hz4, h⟩ := gs_b1_e h
      refine gs_backRi (va_runV (As := [.int x1, .int x4, .int x2]) (rest := [.int x3]) ⟨hx, hb, hml, hown, hts⟩ (c_X12_gapsIn l E a_t a_t_songLong a_t_rows a_t_firstNote a_t_wit a_t_code a_t_tape a_t_refused a_t_newSongLong a_t_newFirstNote a_t_newWit a_t_newRow a_t_readCode a_t_waits a_t_tested a_t_isTold a_t_ahead a_t_told a_t_pile a_t_common a_t_mostOf a_t_likes a_t_heard a_t_soon a_t_soonAll a_t_imageRow a_t_imageAhead a_t_imageHears v_t_thrown v_t_songs v_t_people v_t_forgetsAt v_t_fillsAt v_t_taped v_t_faultKind v_t_faultPlace v_t_long1 v_t_next0 v_t_sort v_t_place v_t_long0 v_t_value v_t_sign v_t_word v_t_newSongs v_t_newPeople v_t_newForgetsAt v_t_newFillsAt v_t_top v_t_firstValue v_t_lastValue v_t_waiting v_t_depth v_t_acts v_t_isWinter v_t_learntNow v_t_forgottenNow v_t_heardMany v_t_its0 v_t_hasImage v_t_imageActs v_t_imageHeard r_t_songLong r_t_rows x1 x4 x2 r4 hz4) (cwV 3 hts gX12_wholeOnes_X12_gapsIn rfl rfl rfl (by decide +kernel) ⟨Nat.le_of_ble_eq_true rfl, Nat.le_of_ble_eq_true rfl⟩) (gs_preV (ci := 12) hk hP hD (is := [0, 1, 2]) rfl rfl rfl rfl) rfl rfl hl.1 rfl (lv_room (Nat.le_of_ble_eq_true rfl)) dX12_wholeOnes_31 ⟨Nat.zero_le _, Nat.zero_le _⟩) ?_
      refine lv_if_ne (tgt := 44) hx hb dX12_wholeOnes_34 (by decide) (fun c5 => ?_) (fun c5 => ?_)
      · replace h := gs_iff c5 h
        refine lv_iconst (v := 0) hx hb dX12_wholeOnes_44 (by decide) ?_
        refine lv_ior hx hb dX12_wholeOnes_45 ?_
        refine lv_istore_n (lv' := [(3, .int (x3 ||| 0)), (0, .ref a_t), (1, .int x1), (2, .int x2), (4, .int x4)]) hx hb dX12_wholeOnes_46 rfl hl (by decide) rfl (fun ls hl => ?_)
        refine lv_iinc (v := x4 + 1) (lv' := [(4, .int (x4 + 1)), (3, .int (x3 ||| 0)), (0, .ref a_t), (1, .int x1), (2, .int x2)]) hx hb dX12_wholeOnes_47 hl (k := 4) rfl rfl (by decide) rfl (fun ls hl => ?_)
        refine lv_goto (tgt := 5) hx hb dX12_wholeOnes_50 (by decide) ?_
        exact hK5 (x3 ||| 0) (x4 + 1) h _ (lv_sub hl [2, 3, 4, 1, 0] rfl)
      · replace h := gs_ift c5 h
        refine lv_iconst (v := 1) hx hb dX12_wholeOnes_37 (by decide) ?_
        refine lv_iload hx hb dX12_wholeOnes_38 (lv_at hl 4 rfl) ?_
        refine lv_ishl hx hb dX12_wholeOnes_40 ?_
        refine lv_goto (tgt := 45) hx hb dX12_wholeOnes_41 (by decide) ?_
        refine lv_ior hx hb dX12_wholeOnes_45 ?_
        refine lv_istore_n (lv' := [(3, .int (x3 ||| (1 <<< (x4 &&& 31)))), (0, .ref a_t), (1, .int x1), (2, .int x2), (4, .int x4)]) hx hb dX12_wholeOnes_46 rfl hl (by decide) rfl (fun ls hl => ?_)
        refine lv_iinc (v := x4 + 1) (lv' := [(4, .int (x4 + 1)), (3, .int (x3 ||| (1 <<< (x4 &&& 31)))), (0, .ref a_t), (1, .int x1), (2, .int x2)]) hx hb dX12_wholeOnes_47 hl (k := 4) rfl rfl (by decide) rfl (fun ls hl => ?_)
        refine lv_goto (tgt := 5) hx hb dX12_wholeOnes_50 (by decide) ?_
        exact hK5 (x3 ||| (1 <<< (x4 &&& 31))) (x4 + 1) h _ (lv_sub hl [2, 3, 4, 1, 0] rfl)
set_option maxHeartbeats 4000000 in
set_option maxRecDepth 100000 in
theorem t_X12_wholeOnes_5_n {p : Program} {l : Launch} {e : Env} {s : State} {m : MethodId} {args : Array Value} {below : List Frame} {meth : Method} {c : Code} {Q : State → Prop} {E : gs_E} {a_t a_t_songLong a_t_rows a_t_firstNote a_t_wit a_t_code a_t_tape a_t_refused a_t_newSongLong a_t_newFirstNote a_t_newWit a_t_newRow a_t_readCode a_t_waits a_t_tested a_t_isTold a_t_ahead a_t_told a_t_pile a_t_common a_t_mostOf a_t_likes a_t_heard a_t_soon a_t_soonAll a_t_imageRow a_t_imageAhead a_t_imageHears : Nat} {v_t_thrown : Int32} {v_t_songs : Int32} {v_t_people : Int32} {v_t_forgetsAt : Int32} {v_t_fillsAt : Int32} {v_t_taped : Int32} {v_t_faultKind : Int32} {v_t_faultPlace : Int32} {v_t_long1 : Int32} {v_t_next0 : Int32} {v_t_sort : Int32} {v_t_place : Int32} {v_t_long0 : Int32} {v_t_value : Int32} {v_t_sign : Int32} {v_t_word : Int64} {v_t_newSongs : Int32} {v_t_newPeople : Int32} {v_t_newForgetsAt : Int32} {v_t_newFillsAt : Int32} {v_t_top : Int32} {v_t_firstValue : Int32} {v_t_lastValue : Int32} {v_t_waiting : Int32} {v_t_depth : Int32} {v_t_acts : Int32} {v_t_isWinter : Int32} {v_t_learntNow : Int32} {v_t_forgottenNow : Int32} {v_t_heardMany : Int32} {v_t_its0 : Int32} {v_t_hasImage : Int32} {v_t_imageActs : Int32} {v_t_imageHeard : Int32} {r_t_songLong : Nat → Int32} {r_t_rows : Nat → Int32} {rr : Int32} (X0 : gs_X wsX12_wholeOnes cX12_wholeOnes RX12 5 (some .int) p s m args meth c) (hk : gs_K E s) (hP : va_P E.1 vwCl (w_X12_wholeOnes E a_t a_t_songLong a_t_rows a_t_firstNote a_t_wit a_t_code a_t_tape a_t_refused a_t_newSongLong a_t_newFirstNote a_t_newWit a_t_newRow a_t_readCode a_t_waits a_t_tested a_t_isTold a_t_ahead a_t_told a_t_pile a_t_common a_t_mostOf a_t_likes a_t_heard a_t_soon a_t_soonAll a_t_imageRow a_t_imageAhead a_t_imageHears v_t_thrown v_t_songs v_t_people v_t_forgetsAt v_t_fillsAt v_t_taped v_t_faultKind v_t_faultPlace v_t_long1 v_t_next0 v_t_sort v_t_place v_t_long0 v_t_value v_t_sign v_t_word v_t_newSongs v_t_newPeople v_t_newForgetsAt v_t_newFillsAt v_t_top v_t_firstValue v_t_lastValue v_t_waiting v_t_depth v_t_acts v_t_isWinter v_t_learntNow v_t_forgottenNow v_t_heardMany v_t_its0 v_t_hasImage v_t_imageActs v_t_imageHeard r_t_songLong r_t_rows) s.heap) (hD : va_D (fun _ => True) (w_X12_wholeOnes E a_t a_t_songLong a_t_rows a_t_firstNote a_t_wit a_t_code a_t_tape a_t_refused a_t_newSongLong a_t_newFirstNote a_t_newWit a_t_newRow a_t_readCode a_t_waits a_t_tested a_t_isTold a_t_ahead a_t_told a_t_pile a_t_common a_t_mostOf a_t_likes a_t_heard a_t_soon a_t_soonAll a_t_imageRow a_t_imageAhead a_t_imageHears v_t_thrown v_t_songs v_t_people v_t_forgetsAt v_t_fillsAt v_t_taped v_t_faultKind v_t_faultPlace v_t_long1 v_t_next0 v_t_sort v_t_place v_t_long0 v_t_value v_t_sign v_t_word v_t_newSongs v_t_newPeople v_t_newForgetsAt v_t_newFillsAt v_t_top v_t_firstValue v_t_lastValue v_t_waiting v_t_depth v_t_acts v_t_isWinter v_t_learntNow v_t_forgottenNow v_t_heardMany v_t_its0 v_t_hasImage v_t_imageActs v_t_imageHeard r_t_songLong r_t_rows)) {x1 : Int32} {x2 : Int32} (hret : ∀ (pc : Nat) (ls : Array Slot), decode cX12_wholeOnes pc = .ok (.ireturn, 1) → W p l e rm_X12_wholeOnes s m args below meth c s.heap [] 0 0 Q (F0 m pc ls [.int rr])) : ∀ (n : Nat) (x3 : Int32) (x4 : Int32), gs_it (fun _ _ => none) (f_X12_wholeOnes_5 x1 x2 v_t_people r_t_songLong r_t_rows) n x3 x4 = some rr → S_X12_wholeOnes_5 p l e s m args below meth c Q a_t a_t_songLong a_t_rows a_t_firstNote a_t_wit a_t_code a_t_tape a_t_refused a_t_newSongLong a_t_newFirstNote a_t_newWit a_t_newRow a_t_readCode a_t_waits a_t_tested a_t_isTold a_t_ahead a_t_told a_t_pile a_t_common a_t_mostOf a_t_likes a_t_heard a_t_soon a_t_soonAll a_t_imageRow a_t_imageAhead a_t_imageHears x1 x2 x3 x4 := by
  intro n
  induction n with
  | zero =>
    intro x3 x4 h
    have h : (none : Option (Int32)) = some rr := h
    cases h
  | succ n ih =>
    intro x3 x4 h
    exact t_X12_wholeOnes_5_b X0 hk hP hD hret  (K5 := gs_it (fun _ _ => none) (f_X12_wholeOnes_5 x1 x2 v_t_people r_t_songLong r_t_rows) n) (hK5 := ih) (h := h)
theorem t_X12_wholeOnes_5 {p : Program} {l : Launch} {e : Env} {s : State} {m : MethodId} {args : Array Value} {below : List Frame} {meth : Method} {c : Code} {Q : State → Prop} {E : gs_E} {a_t a_t_songLong a_t_rows a_t_firstNote a_t_wit a_t_code a_t_tape a_t_refused a_t_newSongLong a_t_newFirstNote a_t_newWit a_t_newRow a_t_readCode a_t_waits a_t_tested a_t_isTold a_t_ahead a_t_told a_t_pile a_t_common a_t_mostOf a_t_likes a_t_heard a_t_soon a_t_soonAll a_t_imageRow a_t_imageAhead a_t_imageHears : Nat} {v_t_thrown : Int32} {v_t_songs : Int32} {v_t_people : Int32} {v_t_forgetsAt : Int32} {v_t_fillsAt : Int32} {v_t_taped : Int32} {v_t_faultKind : Int32} {v_t_faultPlace : Int32} {v_t_long1 : Int32} {v_t_next0 : Int32} {v_t_sort : Int32} {v_t_place : Int32} {v_t_long0 : Int32} {v_t_value : Int32} {v_t_sign : Int32} {v_t_word : Int64} {v_t_newSongs : Int32} {v_t_newPeople : Int32} {v_t_newForgetsAt : Int32} {v_t_newFillsAt : Int32} {v_t_top : Int32} {v_t_firstValue : Int32} {v_t_lastValue : Int32} {v_t_waiting : Int32} {v_t_depth : Int32} {v_t_acts : Int32} {v_t_isWinter : Int32} {v_t_learntNow : Int32} {v_t_forgottenNow : Int32} {v_t_heardMany : Int32} {v_t_its0 : Int32} {v_t_hasImage : Int32} {v_t_imageActs : Int32} {v_t_imageHeard : Int32} {r_t_songLong : Nat → Int32} {r_t_rows : Nat → Int32} {rr : Int32} (X0 : gs_X wsX12_wholeOnes cX12_wholeOnes RX12 5 (some .int) p s m args meth c) (hk : gs_K E s) (hP : va_P E.1 vwCl (w_X12_wholeOnes E a_t a_t_songLong a_t_rows a_t_firstNote a_t_wit a_t_code a_t_tape a_t_refused a_t_newSongLong a_t_newFirstNote a_t_newWit a_t_newRow a_t_readCode a_t_waits a_t_tested a_t_isTold a_t_ahead a_t_told a_t_pile a_t_common a_t_mostOf a_t_likes a_t_heard a_t_soon a_t_soonAll a_t_imageRow a_t_imageAhead a_t_imageHears v_t_thrown v_t_songs v_t_people v_t_forgetsAt v_t_fillsAt v_t_taped v_t_faultKind v_t_faultPlace v_t_long1 v_t_next0 v_t_sort v_t_place v_t_long0 v_t_value v_t_sign v_t_word v_t_newSongs v_t_newPeople v_t_newForgetsAt v_t_newFillsAt v_t_top v_t_firstValue v_t_lastValue v_t_waiting v_t_depth v_t_acts v_t_isWinter v_t_learntNow v_t_forgottenNow v_t_heardMany v_t_its0 v_t_hasImage v_t_imageActs v_t_imageHeard r_t_songLong r_t_rows) s.heap) (hD : va_D (fun _ => True) (w_X12_wholeOnes E a_t a_t_songLong a_t_rows a_t_firstNote a_t_wit a_t_code a_t_tape a_t_refused a_t_newSongLong a_t_newFirstNote a_t_newWit a_t_newRow a_t_readCode a_t_waits a_t_tested a_t_isTold a_t_ahead a_t_told a_t_pile a_t_common a_t_mostOf a_t_likes a_t_heard a_t_soon a_t_soonAll a_t_imageRow a_t_imageAhead a_t_imageHears v_t_thrown v_t_songs v_t_people v_t_forgetsAt v_t_fillsAt v_t_taped v_t_faultKind v_t_faultPlace v_t_long1 v_t_next0 v_t_sort v_t_place v_t_long0 v_t_value v_t_sign v_t_word v_t_newSongs v_t_newPeople v_t_newForgetsAt v_t_newFillsAt v_t_top v_t_firstValue v_t_lastValue v_t_waiting v_t_depth v_t_acts v_t_isWinter v_t_learntNow v_t_forgottenNow v_t_heardMany v_t_its0 v_t_hasImage v_t_imageActs v_t_imageHeard r_t_songLong r_t_rows)) {x1 : Int32} {x2 : Int32} {x3 : Int32} {x4 : Int32} (hret : ∀ (pc : Nat) (ls : Array Slot), decode cX12_wholeOnes pc = .ok (.ireturn, 1) → W p l e rm_X12_wholeOnes s m args below meth c s.heap [] 0 0 Q (F0 m pc ls [.int rr])) (h : gs_it (fun _ _ => none) (f_X12_wholeOnes_5 x1 x2 v_t_people r_t_songLong r_t_rows) gs_fuel x3 x4 = some rr) : S_X12_wholeOnes_5 p l e s m args below meth c Q a_t a_t_songLong a_t_rows a_t_firstNote a_t_wit a_t_code a_t_tape a_t_refused a_t_newSongLong a_t_newFirstNote a_t_newWit a_t_newRow a_t_readCode a_t_waits a_t_tested a_t_isTold a_t_ahead a_t_told a_t_pile a_t_common a_t_mostOf a_t_likes a_t_heard a_t_soon a_t_soonAll a_t_imageRow a_t_imageAhead a_t_imageHears x1 x2 x3 x4 :=
  t_X12_wholeOnes_5_n X0 hk hP hD hret  gs_fuel x3 x4 h
def f_X12_wholeOnes (x1 : Int32) (x2 : Int32) (v_t_people : Int32) (r_t_songLong : Nat → Int32) (r_t_rows : Nat → Int32) : Option (Int32) :=
  gs_it (fun _ _ => none) (f_X12_wholeOnes_5 x1 x2 v_t_people r_t_songLong r_t_rows) gs_fuel 0 0
set_option maxHeartbeats 4000000 in
set_option maxRecDepth 100000 in
theorem c_X12_wholeOnes (l : Launch) (E : gs_E) (a_t a_t_songLong a_t_rows a_t_firstNote a_t_wit a_t_code a_t_tape a_t_refused a_t_newSongLong a_t_newFirstNote a_t_newWit a_t_newRow a_t_readCode a_t_waits a_t_tested a_t_isTold a_t_ahead a_t_told a_t_pile a_t_common a_t_mostOf a_t_likes a_t_heard a_t_soon a_t_soonAll a_t_imageRow a_t_imageAhead a_t_imageHears : Nat) (v_t_thrown : Int32) (v_t_songs : Int32) (v_t_people : Int32) (v_t_forgetsAt : Int32) (v_t_fillsAt : Int32) (v_t_taped : Int32) (v_t_faultKind : Int32) (v_t_faultPlace : Int32) (v_t_long1 : Int32) (v_t_next0 : Int32) (v_t_sort : Int32) (v_t_place : Int32) (v_t_long0 : Int32) (v_t_value : Int32) (v_t_sign : Int32) (v_t_word : Int64) (v_t_newSongs : Int32) (v_t_newPeople : Int32) (v_t_newForgetsAt : Int32) (v_t_newFillsAt : Int32) (v_t_top : Int32) (v_t_firstValue : Int32) (v_t_lastValue : Int32) (v_t_waiting : Int32) (v_t_depth : Int32) (v_t_acts : Int32) (v_t_isWinter : Int32) (v_t_learntNow : Int32) (v_t_forgottenNow : Int32) (v_t_heardMany : Int32) (v_t_its0 : Int32) (v_t_hasImage : Int32) (v_t_imageActs : Int32) (v_t_imageHeard : Int32) (r_t_songLong : Nat → Int32) (r_t_rows : Nat → Int32) (x1 : Int32) (x2 : Int32) (rr : Int32) (h : f_X12_wholeOnes x1 x2 v_t_people r_t_songLong r_t_rows = some rr) : gs_MR l yX12_wholeOnes wsX12_wholeOnes rm_X12_wholeOnes [.ref a_t, .int x1, .int x2] E (w_X12_wholeOnes E a_t a_t_songLong a_t_rows a_t_firstNote a_t_wit a_t_code a_t_tape a_t_refused a_t_newSongLong a_t_newFirstNote a_t_newWit a_t_newRow a_t_readCode a_t_waits a_t_tested a_t_isTold a_t_ahead a_t_told a_t_pile a_t_common a_t_mostOf a_t_likes a_t_heard a_t_soon a_t_soonAll a_t_imageRow a_t_imageAhead a_t_imageHears v_t_thrown v_t_songs v_t_people v_t_forgetsAt v_t_fillsAt v_t_taped v_t_faultKind v_t_faultPlace v_t_long1 v_t_next0 v_t_sort v_t_place v_t_long0 v_t_value v_t_sign v_t_word v_t_newSongs v_t_newPeople v_t_newForgetsAt v_t_newFillsAt v_t_top v_t_firstValue v_t_lastValue v_t_waiting v_t_depth v_t_acts v_t_isWinter v_t_learntNow v_t_forgottenNow v_t_heardMany v_t_its0 v_t_hasImage v_t_imageActs v_t_imageHeard r_t_songLong r_t_rows) (some (.int rr)) := by
  refine Met.ofW (cc := cX12_wholeOnes) (maxL := 5) (ret := (some .int)) (by decide) rfl ?_
  intro p e s m args below meth c s₁ B hml hv
  obtain ⟨rfl, hP, hk, hD0⟩ := hv
  have X0 : gs_X wsX12_wholeOnes cX12_wholeOnes RX12 5 (some .int) p s m ([.ref a_t, .int x1, .int x2] : List Value).toArray meth c := gs_X.of B hml
  obtain ⟨hx, hb, -, hown, hts, hr, hlk⟩ := id X0
  have hD := hD0
  have hret : ∀ (pc : Nat) (ls : Array Slot), decode cX12_wholeOnes pc = .ok (.ireturn, 1) → W p l e rm_X12_wholeOnes s m ([.ref a_t, .int x1, .int x2] : List Value).toArray below meth c s.heap [] 0 0 (MQ below (gs_QR (some (.int rr))) ([.ref a_t, .int x1, .int x2] : List Value).toArray s 0 0 (fun _ => False)) (F0 m pc ls [.int rr]) := fun pc ls hd => W.iret hx hb hr (fun t ht hW => ⟨rfl, ht⟩) (fun q hq => by cases hq) hd
  have hl := lv_entry ([.ref a_t, .int x1, .int x2]) (n := 5) (Nat.le_of_ble_eq_true rfl)
  rw [lg_entry_eq]
  generalize (lg_sl ([.ref a_t, .int x1, .int x2]) ++ List.replicate (5 - (lg_sl ([.ref a_t, .int x1, .int x2])).length) Slot.unset).toArray = ls at hl ⊢
  have hl : lv_has ls 5 [(0, .ref a_t), (1, .int x1), (2, .int x2)] := hl
  unfold f_X12_wholeOnes at h
  refine lv_iconst (v := 0) hx hb dX12_wholeOnes_0 (by decide) ?_
  refine lv_istore_n (lv' := [(3, .int 0), (0, .ref a_t), (1, .int x1), (2, .int x2)]) hx hb dX12_wholeOnes_1 rfl hl (by decide) rfl (fun ls hl => ?_)
  refine lv_iconst (v := 0) hx hb dX12_wholeOnes_2 (by decide) ?_
  refine lv_istore (lv' := [(4, .int 0), (3, .int 0), (0, .ref a_t), (1, .int x1), (2, .int x2)]) hx hb dX12_wholeOnes_3 hl (by decide) rfl (fun ls hl => ?_)
  exact t_X12_wholeOnes_5 X0 hk hP hD hret  (h := h) _ (lv_sub hl [2, 3, 4, 1, 0] rfl)

set_option maxRecDepth 100000 in
theorem ggX12_unlike_X12_noteAt : GoodIn wsX12_unlike wsX12_noteAt := goodIn_r _ [6] rfl (by decide +kernel)
set_option maxRecDepth 100000 in
theorem gX12_unlike_X12_noteAt : GoodIn wsX12_unlike (va_wsS RX12 301 yX12_noteAt wsX12_noteAt) := goodIn_app (goodIn_of _ (by decide +kernel)) ggX12_unlike_X12_noteAt
theorem dX12_unlike_0 : decode cX12_unlike 0 = .ok (.iconst 0, 1) := by decide +kernel
theorem dX12_unlike_1 : decode cX12_unlike 1 = .ok (.istore 4, 2) := by decide +kernel
theorem dX12_unlike_3 : decode cX12_unlike 3 = .ok (.iconst 0, 1) := by decide +kernel
theorem dX12_unlike_4 : decode cX12_unlike 4 = .ok (.istore 5, 2) := by decide +kernel
theorem dX12_unlike_6 : decode cX12_unlike 6 = .ok (.iload 5, 2) := by decide +kernel
theorem dX12_unlike_8 : decode cX12_unlike 8 = .ok (.aload_n 0, 1) := by decide +kernel
theorem dX12_unlike_9 : decode cX12_unlike 9 = .ok (.getfield 16, 3) := by decide +kernel
theorem dX12_unlike_12 : decode cX12_unlike 12 = .ok (.iload_n 3, 1) := by decide +kernel
theorem dX12_unlike_13 : decode cX12_unlike 13 = .ok (.iaload, 1) := by decide +kernel
theorem dX12_unlike_14 : decode cX12_unlike 14 = .ok (.if_icmp .ge 66, 3) := by decide +kernel
theorem dX12_unlike_17 : decode cX12_unlike 17 = .ok (.aload_n 0, 1) := by decide +kernel
theorem dX12_unlike_18 : decode cX12_unlike 18 = .ok (.getfield 63, 3) := by decide +kernel
theorem dX12_unlike_21 : decode cX12_unlike 21 = .ok (.iload_n 1, 1) := by decide +kernel
theorem dX12_unlike_22 : decode cX12_unlike 22 = .ok (.iload_n 3, 1) := by decide +kernel
theorem dX12_unlike_23 : decode cX12_unlike 23 = .ok (.iload 5, 2) := by decide +kernel
theorem dX12_unlike_25 : decode cX12_unlike 25 = .ok (.invokestatic 301, 3) := by decide +kernel
theorem dX12_unlike_28 : decode cX12_unlike 28 = .ok (.iaload, 1) := by decide +kernel
theorem dX12_unlike_29 : decode cX12_unlike 29 = .ok (.istore 6, 2) := by decide +kernel
theorem dX12_unlike_31 : decode cX12_unlike 31 = .ok (.aload_n 0, 1) := by decide +kernel
theorem dX12_unlike_32 : decode cX12_unlike 32 = .ok (.getfield 63, 3) := by decide +kernel
theorem dX12_unlike_35 : decode cX12_unlike 35 = .ok (.iload_n 2, 1) := by decide +kernel
theorem dX12_unlike_36 : decode cX12_unlike 36 = .ok (.iload_n 3, 1) := by decide +kernel
theorem dX12_unlike_37 : decode cX12_unlike 37 = .ok (.iload 5, 2) := by decide +kernel
theorem dX12_unlike_39 : decode cX12_unlike 39 = .ok (.invokestatic 301, 3) := by decide +kernel
theorem dX12_unlike_42 : decode cX12_unlike 42 = .ok (.iaload, 1) := by decide +kernel
theorem dX12_unlike_43 : decode cX12_unlike 43 = .ok (.istore 7, 2) := by decide +kernel
theorem dX12_unlike_45 : decode cX12_unlike 45 = .ok (.iload 4, 2) := by decide +kernel
theorem dX12_unlike_47 : decode cX12_unlike 47 = .ok (.iload 6, 2) := by decide +kernel
theorem dX12_unlike_49 : decode cX12_unlike 49 = .ok (.iconst (-1), 1) := by decide +kernel
theorem dX12_unlike_50 : decode cX12_unlike 50 = .ok (.if_icmp .eq 20, 3) := by decide +kernel
theorem dX12_unlike_53 : decode cX12_unlike 53 = .ok (.iload 7, 2) := by decide +kernel
theorem dX12_unlike_55 : decode cX12_unlike 55 = .ok (.iconst (-1), 1) := by decide +kernel
theorem dX12_unlike_56 : decode cX12_unlike 56 = .ok (.if_icmp .eq 14, 3) := by decide +kernel
theorem dX12_unlike_59 : decode cX12_unlike 59 = .ok (.iload 6, 2) := by decide +kernel
theorem dX12_unlike_61 : decode cX12_unlike 61 = .ok (.iload 7, 2) := by decide +kernel
theorem dX12_unlike_63 : decode cX12_unlike 63 = .ok (.if_icmp .eq 7, 3) := by decide +kernel
theorem dX12_unlike_66 : decode cX12_unlike 66 = .ok (.iconst 1, 1) := by decide +kernel
theorem dX12_unlike_67 : decode cX12_unlike 67 = .ok (.goto 4, 3) := by decide +kernel
theorem dX12_unlike_70 : decode cX12_unlike 70 = .ok (.iconst 0, 1) := by decide +kernel
theorem dX12_unlike_71 : decode cX12_unlike 71 = .ok (.iadd, 1) := by decide +kernel
theorem dX12_unlike_72 : decode cX12_unlike 72 = .ok (.istore 4, 2) := by decide +kernel
theorem dX12_unlike_74 : decode cX12_unlike 74 = .ok (.iinc 5 1, 3) := by decide +kernel
theorem dX12_unlike_77 : decode cX12_unlike 77 = .ok (.goto (-71), 3) := by decide +kernel
theorem dX12_unlike_80 : decode cX12_unlike 80 = .ok (.iload 4, 2) := by decide +kernel
theorem dX12_unlike_82 : decode cX12_unlike 82 = .ok (.ireturn, 1) := by decide +kernel
abbrev w_X12_unlike (E : gs_E) (a_t a_t_songLong a_t_rows a_t_firstNote a_t_wit a_t_code a_t_tape a_t_refused a_t_newSongLong a_t_newFirstNote a_t_newWit a_t_newRow a_t_readCode a_t_waits a_t_tested a_t_isTold a_t_ahead a_t_told a_t_pile a_t_common a_t_mostOf a_t_likes a_t_heard a_t_soon a_t_soonAll a_t_imageRow a_t_imageAhead a_t_imageHears : Nat) (v_t_thrown : Int32) (v_t_songs : Int32) (v_t_people : Int32) (v_t_forgetsAt : Int32) (v_t_fillsAt : Int32) (v_t_taped : Int32) (v_t_faultKind : Int32) (v_t_faultPlace : Int32) (v_t_long1 : Int32) (v_t_next0 : Int32) (v_t_sort : Int32) (v_t_place : Int32) (v_t_long0 : Int32) (v_t_value : Int32) (v_t_sign : Int32) (v_t_word : Int64) (v_t_newSongs : Int32) (v_t_newPeople : Int32) (v_t_newForgetsAt : Int32) (v_t_newFillsAt : Int32) (v_t_top : Int32) (v_t_firstValue : Int32) (v_t_lastValue : Int32) (v_t_waiting : Int32) (v_t_depth : Int32) (v_t_acts : Int32) (v_t_isWinter : Int32) (v_t_learntNow : Int32) (v_t_forgottenNow : Int32) (v_t_heardMany : Int32) (v_t_its0 : Int32) (v_t_hasImage : Int32) (v_t_imageActs : Int32) (v_t_imageHeard : Int32) (r_t_songLong : Nat → Int32) (r_t_rows : Nat → Int32) : va_W := [(a_t, .inr (12, [.int v_t_thrown, .int v_t_songs, .int v_t_people, .int v_t_forgetsAt, .int v_t_fillsAt, .ref a_t_songLong, .ref a_t_firstNote, .ref a_t_wit, .ref a_t_code, .ref a_t_tape, .int v_t_taped, .int v_t_faultKind, .int v_t_faultPlace, .ref a_t_refused, .int v_t_long1, .int v_t_next0, .int v_t_sort, .int v_t_place, .int v_t_long0, .int v_t_value, .int v_t_sign, .long v_t_word, .int v_t_newSongs, .int v_t_newPeople, .int v_t_newForgetsAt, .int v_t_newFillsAt, .int v_t_top, .int v_t_firstValue, .int v_t_lastValue, .int v_t_waiting, .int v_t_depth, .ref a_t_newSongLong, .ref a_t_newFirstNote, .ref a_t_newWit, .ref a_t_newRow, .ref a_t_readCode, .ref a_t_waits, .ref a_t_tested, .ref a_t_isTold, .ref a_t_rows, .ref a_t_ahead, .int v_t_acts, .ref a_t_told, .ref a_t_pile, .int v_t_isWinter, .int v_t_learntNow, .int v_t_forgottenNow, .ref a_t_common, .ref a_t_mostOf, .ref a_t_likes, .int v_t_heardMany, .ref a_t_heard, .ref a_t_soon, .ref a_t_soonAll, .int v_t_its0, .int v_t_hasImage, .int v_t_imageActs, .int v_t_imageHeard, .ref a_t_imageRow, .ref a_t_imageAhead, .ref a_t_imageHears])), (a_t_songLong, .inl (E.2.1, 5, .inl r_t_songLong)), (a_t_rows, .inl (E.2.1, 744, .inl r_t_rows))]
abbrev rm_X12_unlike : Room := { frames := 1, cells := 0, slots := 0, locals := 22 }
def S_X12_unlike_6 (p : Program) (l : Launch) (e : Env) (s : State) (m : MethodId) (args : Array Value) (below : List Frame) (meth : Method) (c : Code) (Q : State → Prop) (a_t a_t_songLong a_t_rows a_t_firstNote a_t_wit a_t_code a_t_tape a_t_refused a_t_newSongLong a_t_newFirstNote a_t_newWit a_t_newRow a_t_readCode a_t_waits a_t_tested a_t_isTold a_t_ahead a_t_told a_t_pile a_t_common a_t_mostOf a_t_likes a_t_heard a_t_soon a_t_soonAll a_t_imageRow a_t_imageAhead a_t_imageHears : Nat) (x1 : Int32) (x2 : Int32) (x3 : Int32) (x4 : Int32) (x5 : Int32) : Prop := ∀ (ls : Array Slot), lv_has ls 8 [(0, .ref a_t), (1, .int x1), (2, .int x2), (3, .int x3), (4, .int x4), (5, .int x5)] → W p l e rm_X12_unlike s m args below meth c s.heap [] 0 0 Q (F0 m 6 ls [])
def f_X12_unlike_6 (x1 : Int32) (x2 : Int32) (x3 : Int32) (r_t_songLong : Nat → Int32) (r_t_rows : Nat → Int32) (K6 : Int32 → Int32 → Option (Int32)) (x4 : Int32) (x5 : Int32) : Option (Int32) :=
  gs_gd (gs_in x3 5) <|
  if (r_t_songLong x3.toNatClampNeg) ≤ x5 then
    some x4
  else
    gs_b1 (f_X12_noteAt x1 x3 x5) fun r3 =>
    gs_gd (gs_in r3 744) <|
    gs_b1 (f_X12_noteAt x2 x3 x5) fun r5 =>
    gs_gd (gs_in r5 744) <|
    if (r_t_rows r3.toNatClampNeg) = (-1) then
      K6 (x4 + 0) (x5 + 1)
    else
      if (r_t_rows r5.toNatClampNeg) = (-1) then
        K6 (x4 + 0) (x5 + 1)
      else
        if (r_t_rows r3.toNatClampNeg) = (r_t_rows r5.toNatClampNeg) then
          K6 (x4 + 0) (x5 + 1)
        else
          K6 (x4 + 1) (x5 + 1)
set_option maxHeartbeats 4000000 in
set_option maxRecDepth 100000 in
theorem t_X12_unlike_6_b {p : Program} {l : Launch} {e : Env} {s : State} {m : MethodId} {args : Array Value} {below : List Frame} {meth : Method} {c : Code} {Q : State → Prop} {E : gs_E} {a_t a_t_songLong a_t_rows a_t_firstNote a_t_wit a_t_code a_t_tape a_t_refused a_t_newSongLong a_t_newFirstNote a_t_newWit a_t_newRow a_t_readCode a_t_waits a_t_tested a_t_isTold a_t_ahead a_t_told a_t_pile a_t_common a_t_mostOf a_t_likes a_t_heard a_t_soon a_t_soonAll a_t_imageRow a_t_imageAhead a_t_imageHears : Nat} {v_t_thrown : Int32} {v_t_songs : Int32} {v_t_people : Int32} {v_t_forgetsAt : Int32} {v_t_fillsAt : Int32} {v_t_taped : Int32} {v_t_faultKind : Int32} {v_t_faultPlace : Int32} {v_t_long1 : Int32} {v_t_next0 : Int32} {v_t_sort : Int32} {v_t_place : Int32} {v_t_long0 : Int32} {v_t_value : Int32} {v_t_sign : Int32} {v_t_word : Int64} {v_t_newSongs : Int32} {v_t_newPeople : Int32} {v_t_newForgetsAt : Int32} {v_t_newFillsAt : Int32} {v_t_top : Int32} {v_t_firstValue : Int32} {v_t_lastValue : Int32} {v_t_waiting : Int32} {v_t_depth : Int32} {v_t_acts : Int32} {v_t_isWinter : Int32} {v_t_learntNow : Int32} {v_t_forgottenNow : Int32} {v_t_heardMany : Int32} {v_t_its0 : Int32} {v_t_hasImage : Int32} {v_t_imageActs : Int32} {v_t_imageHeard : Int32} {r_t_songLong : Nat → Int32} {r_t_rows : Nat → Int32} {rr : Int32} (X0 : gs_X wsX12_unlike cX12_unlike RX12 8 (some .int) p s m args meth c) (hk : gs_K E s) (hP : va_P E.1 vwCl (w_X12_unlike E a_t a_t_songLong a_t_rows a_t_firstNote a_t_wit a_t_code a_t_tape a_t_refused a_t_newSongLong a_t_newFirstNote a_t_newWit a_t_newRow a_t_readCode a_t_waits a_t_tested a_t_isTold a_t_ahead a_t_told a_t_pile a_t_common a_t_mostOf a_t_likes a_t_heard a_t_soon a_t_soonAll a_t_imageRow a_t_imageAhead a_t_imageHears v_t_thrown v_t_songs v_t_people v_t_forgetsAt v_t_fillsAt v_t_taped v_t_faultKind v_t_faultPlace v_t_long1 v_t_next0 v_t_sort v_t_place v_t_long0 v_t_value v_t_sign v_t_word v_t_newSongs v_t_newPeople v_t_newForgetsAt v_t_newFillsAt v_t_top v_t_firstValue v_t_lastValue v_t_waiting v_t_depth v_t_acts v_t_isWinter v_t_learntNow v_t_forgottenNow v_t_heardMany v_t_its0 v_t_hasImage v_t_imageActs v_t_imageHeard r_t_songLong r_t_rows) s.heap) (hD : va_D (fun _ => True) (w_X12_unlike E a_t a_t_songLong a_t_rows a_t_firstNote a_t_wit a_t_code a_t_tape a_t_refused a_t_newSongLong a_t_newFirstNote a_t_newWit a_t_newRow a_t_readCode a_t_waits a_t_tested a_t_isTold a_t_ahead a_t_told a_t_pile a_t_common a_t_mostOf a_t_likes a_t_heard a_t_soon a_t_soonAll a_t_imageRow a_t_imageAhead a_t_imageHears v_t_thrown v_t_songs v_t_people v_t_forgetsAt v_t_fillsAt v_t_taped v_t_faultKind v_t_faultPlace v_t_long1 v_t_next0 v_t_sort v_t_place v_t_long0 v_t_value v_t_sign v_t_word v_t_newSongs v_t_newPeople v_t_newForgetsAt v_t_newFillsAt v_t_top v_t_firstValue v_t_lastValue v_t_waiting v_t_depth v_t_acts v_t_isWinter v_t_learntNow v_t_forgottenNow v_t_heardMany v_t_its0 v_t_hasImage v_t_imageActs v_t_imageHeard r_t_songLong r_t_rows)) {x1 : Int32} {x2 : Int32} {x3 : Int32} {x4 : Int32} {x5 : Int32} (hret : ∀ (pc : Nat) (ls : Array Slot), decode cX12_unlike pc = .ok (.ireturn, 1) → W p l e rm_X12_unlike s m args below meth c s.heap [] 0 0 Q (F0 m pc ls [.int rr])) {K6 : Int32 → Int32 → Option (Int32)} (hK6 : ∀ (x4 : Int32) (x5 : Int32), K6 x4 x5 = some rr → S_X12_unlike_6 p l e s m args below meth c Q a_t a_t_songLong a_t_rows a_t_firstNote a_t_wit a_t_code a_t_tape a_t_refused a_t_newSongLong a_t_newFirstNote a_t_newWit a_t_newRow a_t_readCode a_t_waits a_t_tested a_t_isTold a_t_ahead a_t_told a_t_pile a_t_common a_t_mostOf a_t_likes a_t_heard a_t_soon a_t_soonAll a_t_imageRow a_t_imageAhead a_t_imageHears x1 x2 x3 x4 x5) (h : f_X12_unlike_6 x1 x2 x3 r_t_songLong r_t_rows K6 x4 x5 = some rr) : S_X12_unlike_6 p l e s m args below meth c Q a_t a_t_songLong a_t_rows a_t_firstNote a_t_wit a_t_code a_t_tape a_t_refused a_t_newSongLong a_t_newFirstNote a_t_newWit a_t_newRow a_t_readCode a_t_waits a_t_tested a_t_isTold a_t_ahead a_t_told a_t_pile a_t_common a_t_mostOf a_t_likes a_t_heard a_t_soon a_t_soonAll a_t_imageRow a_t_imageAhead a_t_imageHears x1 x2 x3 x4 x5 := by
  obtain ⟨hx, hb, hml, hown, hts, hr, hlk⟩ := id X0
  intro ls hl
  unfold f_X12_unlike_6 at h
  refine lv_iload hx hb dX12_unlike_6 (lv_at hl 5 rfl) ?_
  refine lv_aload_n hx hb dX12_unlike_8 rfl (lv_at hl 0 rfl) ?_
  refine va_get (D := E.1) (ci := 12) (v := .ref a_t_songLong) (C := RX12) (T := TX12) (N := 61) hx hb hts (fun _ h => (List.mem_cons_of_mem _ (List.mem_append_right _ h))) hown hk.1 hP 0 rfl rfl 5 (by decide) (hts (.fieldLink RX12 16 "GapSongsModel" "songLong" "[I") (List.mem_cons_of_mem _ (List.mem_append_left _ (List.mem_of_getElem? (i := 0) rfl)))) (fun _ h9 => h9) rfl dX12_unlike_9 ?_
  refine lv_iload_n hx hb dX12_unlike_12 rfl (lv_at hl 3 rfl) ?_
  obtain ⟨g1, h⟩ := gs_gd_e h
  refine va_iald hx hb hk.1 hP 1 0 rfl rfl (gs_in_e g1) dX12_unlike_13 ?_
  refine lv_icmp_ge (tgt := 80) hx hb dX12_unlike_14 (by decide) (fun c2 => ?_) (fun c2 => ?_)
  · replace h := gs_ift c2 h
    refine lv_iload hx hb dX12_unlike_80 (lv_at hl 4 rfl) ?_
    have h := Option.some.inj h
    subst h
    exact hret _ _ dX12_unlike_82
  · replace h := gs_iff c2 h
    refine lv_aload_n hx hb dX12_unlike_17 rfl (lv_at hl 0 rfl) ?_
    refine va_get (D := E.1) (ci := 12) (v := .ref a_t_rows) (C := RX12) (T := TX12) (N := 61) hx hb hts (fun _ h => (List.mem_cons_of_mem _ (List.mem_append_right _ h))) hown hk.1 hP 0 rfl rfl 39 (by decide) (hts (.fieldLink RX12 63 "GapSongsModel" "rows" "[I") (List.mem_cons_of_mem _ (List.mem_append_left _ (List.mem_of_getElem? (i := 1) rfl)))) (fun _ h9 => h9) rfl dX12_unlike_18 ?_
    refine lv_iload_n hx hb dX12_unlike_21 rfl (lv_at hl 1 rfl) ?_
    refine lv_iload_n hx hb dX12_unlike_22 rfl (lv_at hl 3 rfl) ?_
    refine lv_iload hx hb dX12_unlike_23 (lv_at hl 5 rfl) ?_
    obtain ⟨r3, hz3, h⟩ := gs_b1_e h
    refine gs_backRi (va_runS (As := [.int x1, .int x3, .int x5]) (rest := [.ref a_t_rows]) ⟨hx, hb, hml, hown, hts⟩ (c_X12_noteAt l E x1 x3 x5 r3 hz3) (va_cwS 3 hts gX12_unlike_X12_noteAt rfl rfl rfl (by decide +kernel) ⟨Nat.le_of_ble_eq_true rfl, Nat.le_of_ble_eq_true rfl⟩) (gs_pre hk hP hD (is := []) rfl rfl) rfl rfl hl.1 rfl (lv_room (Nat.le_of_ble_eq_true rfl)) dX12_unlike_25 ⟨Nat.zero_le _, Nat.zero_le _⟩) ?_
    obtain ⟨g4, h⟩ := gs_gd_e h
    refine va_iald hx hb hk.1 hP 2 0 rfl rfl (gs_in_e g4) dX12_unlike_28 ?_
    refine lv_istore (lv' := [(6, .int (r_t_rows r3.toNatClampNeg)), (0, .ref a_t), (1, .int x1), (2, .int x2), (3, .int x3), (4, .int x4), (5, .int x5)]) hx hb dX12_unlike_29 hl (by decide) rfl (fun ls hl => ?_)
    refine lv_aload_n hx hb dX12_unlike_31 rfl (lv_at hl 1 rfl) ?_
    refine va_get (D := E.1) (ci := 12) (v := .ref a_t_rows) (C := RX12) (T := TX12) (N := 61) hx hb hts (fun _ h => (List.mem_cons_of_mem _ (List.mem_append_right _ h))) hown hk.1 hP 0 rfl rfl 39 (by decide) (hts (.fieldLink RX12 63 "GapSongsModel" "rows" "[I") (List.mem_cons_of_mem _ (List.mem_append_left _ (List.mem_of_getElem? (i := 1) rfl)))) (fun _ h9 => h9) rfl dX12_unlike_32 ?_
    refine lv_iload_n hx hb dX12_unlike_35 rfl (lv_at hl 3 rfl) ?_
    refine lv_iload_n hx hb dX12_unlike_36 rfl (lv_at hl 4 rfl) ?_
    refine lv_iload hx hb dX12_unlike_37 (lv_at hl 6 rfl) ?_
    obtain ⟨r5, hz5, h⟩ := gs_b1_e h
    refine gs_backRi (va_runS (As := [.int x2, .int x3, .int x5]) (rest := [.ref a_t_rows]) ⟨hx, hb, hml, hown, hts⟩ (c_X12_noteAt l E x2 x3 x5 r5 hz5) (va_cwS 3 hts gX12_unlike_X12_noteAt rfl rfl rfl (by decide +kernel) ⟨Nat.le_of_ble_eq_true rfl, Nat.le_of_ble_eq_true rfl⟩) (gs_pre hk hP hD (is := []) rfl rfl) rfl rfl hl.1 rfl (lv_room (Nat.le_of_ble_eq_true rfl)) dX12_unlike_39 ⟨Nat.zero_le _, Nat.zero_le _⟩) ?_
    obtain ⟨g6, h⟩ := gs_gd_e h
    refine va_iald hx hb hk.1 hP 2 0 rfl rfl (gs_in_e g6) dX12_unlike_42 ?_
    refine lv_istore (lv' := [(7, .int (r_t_rows r5.toNatClampNeg)), (6, .int (r_t_rows r3.toNatClampNeg)), (0, .ref a_t), (1, .int x1), (2, .int x2), (3, .int x3), (4, .int x4), (5, .int x5)]) hx hb dX12_unlike_43 hl (by decide) rfl (fun ls hl => ?_)
    refine lv_iload hx hb dX12_unlike_45 (lv_at hl 6 rfl) ?_
    refine lv_iload hx hb dX12_unlike_47 (lv_at hl 1 rfl) ?_
    refine lv_iconst (v := (-1)) hx hb dX12_unlike_49 (by decide) ?_
    refine lv_icmp_eq (tgt := 70) hx hb dX12_unlike_50 (by decide) (fun c7 => ?_) (fun c7 => ?_)
    · replace h := gs_ift c7 h
      refine lv_iconst (v := 0) hx hb dX12_unlike_70 (by decide) ?_
      refine lv_iadd hx hb dX12_unlike_71 ?_
      refine lv_istore (lv' := [(4, .int (x4 + 0)), (7, .int (r_t_rows r5.toNatClampNeg)), (6, .int (r_t_rows r3.toNatClampNeg)), (0, .ref a_t), (1, .int x1), (2, .int x2), (3, .int x3), (5, .int x5)]) hx hb dX12_unlike_72 hl (by decide) rfl (fun ls hl => ?_)
      refine lv_iinc (v := x5 + 1) (lv' := [(5, .int (x5 + 1)), (4, .int (x4 + 0)), (7, .int (r_t_rows r5.toNatClampNeg)), (6, .int (r_t_rows r3.toNatClampNeg)), (0, .ref a_t), (1, .int x1), (2, .int x2), (3, .int x3)]) hx hb dX12_unlike_74 hl (k := 7) rfl rfl (by decide) rfl (fun ls hl => ?_)
      refine lv_goto (tgt := 6) hx hb dX12_unlike_77 (by decide) ?_
      exact hK6 (x4 + 0) (x5 + 1) h _ (lv_sub hl [4, 5, 6, 7, 1, 0] rfl)
    · replace h := gs_iff c7 h
      refine lv_iload hx hb dX12_unlike_53 (lv_at hl 0 rfl) ?_
      refine lv_iconst (v := (-1)) hx hb dX12_unlike_55 (by decide) ?_
      refine lv_icmp_eq (tgt := 70) hx hb dX12_unlike_56 (by decide) (fun c8 => ?_) (fun c8 => ?_)
      · replace h := gs_ift c8 h
        refine lv_iconst (v := 0) hx hb dX12_unlike_70 (by decide) ?_
        refine lv_iadd hx hb dX12_unlike_71 ?_
        refine lv_istore (lv' := [(4, .int (x4 + 0)), (7, .int (r_t_rows r5.toNatClampNeg)), (6, .int (r_t_rows r3.toNatClampNeg)), (0, .ref a_t), (1, .int x1), (2, .int x2), (3, .int x3), (5, .int x5)]) hx hb dX12_unlike_72 hl (by decide) rfl (fun ls hl => ?_)
        refine lv_iinc (v := x5 + 1) (lv' := [(5, .int (x5 + 1)), (4, .int (x4 + 0)), (7, .int (r_t_rows r5.toNatClampNeg)), (6, .int (r_t_rows r3.toNatClampNeg)), (0, .ref a_t), (1, .int x1), (2, .int x2), (3, .int x3)]) hx hb dX12_unlike_74 hl (k := 7) rfl rfl (by decide) rfl (fun ls hl => ?_)
        refine lv_goto (tgt := 6) hx hb dX12_unlike_77 (by decide) ?_
        exact hK6 (x4 + 0) (x5 + 1) h _ (lv_sub hl [4, 5, 6, 7, 1, 0] rfl)
      · replace h := gs_iff c8 h
        refine lv_iload hx hb dX12_unlike_59 (lv_at hl 1 rfl) ?_
        refine lv_iload hx hb dX12_unlike_61 (lv_at hl 0 rfl) ?_
        refine lv_icmp_eq (tgt := 70) hx hb dX12_unlike_63 (by decide) (fun c9 => ?_) (fun c9 => ?_)
        · replace h := gs_ift c9 h
          refine lv_iconst (v := 0) hx hb dX12_unlike_70 (by decide) ?_
          refine lv_iadd hx hb dX12_unlike_71 ?_
          refine lv_istore (lv' := [(4, .int (x4 + 0)), (7, .int (r_t_rows r5.toNatClampNeg)), (6, .int (r_t_rows r3.toNatClampNeg)), (0, .ref a_t), (1, .int x1), (2, .int x2), (3, .int x3), (5, .int x5)]) hx hb dX12_unlike_72 hl (by decide) rfl (fun ls hl => ?_)
          refine lv_iinc (v := x5 + 1) (lv' := [(5, .int (x5 + 1)), (4, .int (x4 + 0)), (7, .int (r_t_rows r5.toNatClampNeg)), (6, .int (r_t_rows r3.toNatClampNeg)), (0, .ref a_t), (1, .int x1), (2, .int x2), (3, .int x3)]) hx hb dX12_unlike_74 hl (k := 7) rfl rfl (by decide) rfl (fun ls hl => ?_)
          refine lv_goto (tgt := 6) hx hb dX12_unlike_77 (by decide) ?_
          exact hK6 (x4 + 0) (x5 + 1) h _ (lv_sub hl [4, 5, 6, 7, 1, 0] rfl)
        · replace h := gs_iff c9 h
          refine lv_iconst (v := 1) hx hb dX12_unlike_66 (by decide) ?_
          refine lv_goto (tgt := 71) hx hb dX12_unlike_67 (by decide) ?_
          refine lv_iadd hx hb dX12_unlike_71 ?_
          refine lv_istore (lv' := [(4, .int (x4 + 1)), (7, .int (r_t_rows r5.toNatClampNeg)), (6, .int (r_t_rows r3.toNatClampNeg)), (0, .ref a_t), (1, .int x1), (2, .int x2), (3, .int x3), (5, .int x5)]) hx hb dX12_unlike_72 hl (by decide) rfl (fun ls hl => ?_)
          refine lv_iinc (v := x5 + 1) (lv' := [(5, .int (x5 + 1)), (4, .int (x4 + 1)), (7, .int (r_t_rows r5.toNatClampNeg)), (6, .int (r_t_rows r3.toNatClampNeg)), (0, .ref a_t), (1, .int x1), (2, .int x2), (3, .int x3)]) hx hb dX12_unlike_74 hl (k := 7) rfl rfl (by decide) rfl (fun ls hl => ?_)
          refine lv_goto (tgt := 6) hx hb dX12_unlike_77 (by decide) ?_
          exact hK6 (x4 + 1) (x5 + 1) h _ (lv_sub hl [4, 5, 6, 7, 1, 0] rfl)
set_option maxHeartbeats 4000000 in
set_option maxRecDepth 100000 in
theorem t_X12_unlike_6_n {p : Program} {l : Launch} {e : Env} {s : State} {m : MethodId} {args : Array Value} {below : List Frame} {meth : Method} {c : Code} {Q : State → Prop} {E : gs_E} {a_t a_t_songLong a_t_rows a_t_firstNote a_t_wit a_t_code a_t_tape a_t_refused a_t_newSongLong a_t_newFirstNote a_t_newWit a_t_newRow a_t_readCode a_t_waits a_t_tested a_t_isTold a_t_ahead a_t_told a_t_pile a_t_common a_t_mostOf a_t_likes a_t_heard a_t_soon a_t_soonAll a_t_imageRow a_t_imageAhead a_t_imageHears : Nat} {v_t_thrown : Int32} {v_t_songs : Int32} {v_t_people : Int32} {v_t_forgetsAt : Int32} {v_t_fillsAt : Int32} {v_t_taped : Int32} {v_t_faultKind : Int32} {v_t_faultPlace : Int32} {v_t_long1 : Int32} {v_t_next0 : Int32} {v_t_sort : Int32} {v_t_place : Int32} {v_t_long0 : Int32} {v_t_value : Int32} {v_t_sign : Int32} {v_t_word : Int64} {v_t_newSongs : Int32} {v_t_newPeople : Int32} {v_t_newForgetsAt : Int32} {v_t_newFillsAt : Int32} {v_t_top : Int32} {v_t_firstValue : Int32} {v_t_lastValue : Int32} {v_t_waiting : Int32} {v_t_depth : Int32} {v_t_acts : Int32} {v_t_isWinter : Int32} {v_t_learntNow : Int32} {v_t_forgottenNow : Int32} {v_t_heardMany : Int32} {v_t_its0 : Int32} {v_t_hasImage : Int32} {v_t_imageActs : Int32} {v_t_imageHeard : Int32} {r_t_songLong : Nat → Int32} {r_t_rows : Nat → Int32} {rr : Int32} (X0 : gs_X wsX12_unlike cX12_unlike RX12 8 (some .int) p s m args meth c) (hk : gs_K E s) (hP : va_P E.1 vwCl (w_X12_unlike E a_t a_t_songLong a_t_rows a_t_firstNote a_t_wit a_t_code a_t_tape a_t_refused a_t_newSongLong a_t_newFirstNote a_t_newWit a_t_newRow a_t_readCode a_t_waits a_t_tested a_t_isTold a_t_ahead a_t_told a_t_pile a_t_common a_t_mostOf a_t_likes a_t_heard a_t_soon a_t_soonAll a_t_imageRow a_t_imageAhead a_t_imageHears v_t_thrown v_t_songs v_t_people v_t_forgetsAt v_t_fillsAt v_t_taped v_t_faultKind v_t_faultPlace v_t_long1 v_t_next0 v_t_sort v_t_place v_t_long0 v_t_value v_t_sign v_t_word v_t_newSongs v_t_newPeople v_t_newForgetsAt v_t_newFillsAt v_t_top v_t_firstValue v_t_lastValue v_t_waiting v_t_depth v_t_acts v_t_isWinter v_t_learntNow v_t_forgottenNow v_t_heardMany v_t_its0 v_t_hasImage v_t_imageActs v_t_imageHeard r_t_songLong r_t_rows) s.heap) (hD : va_D (fun _ => True) (w_X12_unlike E a_t a_t_songLong a_t_rows a_t_firstNote a_t_wit a_t_code a_t_tape a_t_refused a_t_newSongLong a_t_newFirstNote a_t_newWit a_t_newRow a_t_readCode a_t_waits a_t_tested a_t_isTold a_t_ahead a_t_told a_t_pile a_t_common a_t_mostOf a_t_likes a_t_heard a_t_soon a_t_soonAll a_t_imageRow a_t_imageAhead a_t_imageHears v_t_thrown v_t_songs v_t_people v_t_forgetsAt v_t_fillsAt v_t_taped v_t_faultKind v_t_faultPlace v_t_long1 v_t_next0 v_t_sort v_t_place v_t_long0 v_t_value v_t_sign v_t_word v_t_newSongs v_t_newPeople v_t_newForgetsAt v_t_newFillsAt v_t_top v_t_firstValue v_t_lastValue v_t_waiting v_t_depth v_t_acts v_t_isWinter v_t_learntNow v_t_forgottenNow v_t_heardMany v_t_its0 v_t_hasImage v_t_imageActs v_t_imageHeard r_t_songLong r_t_rows)) {x1 : Int32} {x2 : Int32} {x3 : Int32} (hret : ∀ (pc : Nat) (ls : Array Slot), decode cX12_unlike pc = .ok (.ireturn, 1) → W p l e rm_X12_unlike s m args below meth c s.heap [] 0 0 Q (F0 m pc ls [.int rr])) : ∀ (n : Nat) (x4 : Int32) (x5 : Int32), gs_it (fun _ _ => none) (f_X12_unlike_6 x1 x2 x3 r_t_songLong r_t_rows) n x4 x5 = some rr → S_X12_unlike_6 p l e s m args below meth c Q a_t a_t_songLong a_t_rows a_t_firstNote a_t_wit a_t_code a_t_tape a_t_refused a_t_newSongLong a_t_newFirstNote a_t_newWit a_t_newRow a_t_readCode a_t_waits a_t_tested a_t_isTold a_t_ahead a_t_told a_t_pile a_t_common a_t_mostOf a_t_likes a_t_heard a_t_soon a_t_soonAll a_t_imageRow a_t_imageAhead a_t_imageHears x1 x2 x3 x4 x5 := by
  intro n
  induction n with
  | zero =>
    intro x4 x5 h
    have h : (none : Option (Int32)) = some rr := h
    cases h
  | succ n ih =>
    intro x4 x5 h
    exact t_X12_unlike_6_b X0 hk hP hD hret  (K6 := gs_it (fun _ _ => none) (f_X12_unlike_6 x1 x2 x3 r_t_songLong r_t_rows) n) (hK6 := ih) (h := h)
theorem t_X12_unlike_6 {p : Program} {l : Launch} {e : Env} {s : State} {m : MethodId} {args : Array Value} {below : List Frame} {meth : Method} {c : Code} {Q : State → Prop} {E : gs_E} {a_t a_t_songLong a_t_rows a_t_firstNote a_t_wit a_t_code a_t_tape a_t_refused a_t_newSongLong a_t_newFirstNote a_t_newWit a_t_newRow a_t_readCode a_t_waits a_t_tested a_t_isTold a_t_ahead a_t_told a_t_pile a_t_common a_t_mostOf a_t_likes a_t_heard a_t_soon a_t_soonAll a_t_imageRow a_t_imageAhead a_t_imageHears : Nat} {v_t_thrown : Int32} {v_t_songs : Int32} {v_t_people : Int32} {v_t_forgetsAt : Int32} {v_t_fillsAt : Int32} {v_t_taped : Int32} {v_t_faultKind : Int32} {v_t_faultPlace : Int32} {v_t_long1 : Int32} {v_t_next0 : Int32} {v_t_sort : Int32} {v_t_place : Int32} {v_t_long0 : Int32} {v_t_value : Int32} {v_t_sign : Int32} {v_t_word : Int64} {v_t_newSongs : Int32} {v_t_newPeople : Int32} {v_t_newForgetsAt : Int32} {v_t_newFillsAt : Int32} {v_t_top : Int32} {v_t_firstValue : Int32} {v_t_lastValue : Int32} {v_t_waiting : Int32} {v_t_depth : Int32} {v_t_acts : Int32} {v_t_isWinter : Int32} {v_t_learntNow : Int32} {v_t_forgottenNow : Int32} {v_t_heardMany : Int32} {v_t_its0 : Int32} {v_t_hasImage : Int32} {v_t_imageActs : Int32} {v_t_imageHeard : Int32} {r_t_songLong : Nat → Int32} {r_t_rows : Nat → Int32} {rr : Int32} (X0 : gs_X wsX12_unlike cX12_unlike RX12 8 (some .int) p s m args meth c) (hk : gs_K E s) (hP : va_P E.1 vwCl (w_X12_unlike E a_t a_t_songLong a_t_rows a_t_firstNote a_t_wit a_t_code a_t_tape a_t_refused a_t_newSongLong a_t_newFirstNote a_t_newWit a_t_newRow a_t_readCode a_t_waits a_t_tested a_t_isTold a_t_ahead a_t_told a_t_pile a_t_common a_t_mostOf a_t_likes a_t_heard a_t_soon a_t_soonAll a_t_imageRow a_t_imageAhead a_t_imageHears v_t_thrown v_t_songs v_t_people v_t_forgetsAt v_t_fillsAt v_t_taped v_t_faultKind v_t_faultPlace v_t_long1 v_t_next0 v_t_sort v_t_place v_t_long0 v_t_value v_t_sign v_t_word v_t_newSongs v_t_newPeople v_t_newForgetsAt v_t_newFillsAt v_t_top v_t_firstValue v_t_lastValue v_t_waiting v_t_depth v_t_acts v_t_isWinter v_t_learntNow v_t_forgottenNow v_t_heardMany v_t_its0 v_t_hasImage v_t_imageActs v_t_imageHeard r_t_songLong r_t_rows) s.heap) (hD : va_D (fun _ => True) (w_X12_unlike E a_t a_t_songLong a_t_rows a_t_firstNote a_t_wit a_t_code a_t_tape a_t_refused a_t_newSongLong a_t_newFirstNote a_t_newWit a_t_newRow a_t_readCode a_t_waits a_t_tested a_t_isTold a_t_ahead a_t_told a_t_pile a_t_common a_t_mostOf a_t_likes a_t_heard a_t_soon a_t_soonAll a_t_imageRow a_t_imageAhead a_t_imageHears v_t_thrown v_t_songs v_t_people v_t_forgetsAt v_t_fillsAt v_t_taped v_t_faultKind v_t_faultPlace v_t_long1 v_t_next0 v_t_sort v_t_place v_t_long0 v_t_value v_t_sign v_t_word v_t_newSongs v_t_newPeople v_t_newForgetsAt v_t_newFillsAt v_t_top v_t_firstValue v_t_lastValue v_t_waiting v_t_depth v_t_acts v_t_isWinter v_t_learntNow v_t_forgottenNow v_t_heardMany v_t_its0 v_t_hasImage v_t_imageActs v_t_imageHeard r_t_songLong r_t_rows)) {x1 : Int32} {x2 : Int32} {x3 : Int32} {x4 : Int32} {x5 : Int32} (hret : ∀ (pc : Nat) (ls : Array Slot), decode cX12_unlike pc = .ok (.ireturn, 1) → W p l e rm_X12_unlike s m args below meth c s.heap [] 0 0 Q (F0 m pc ls [.int rr])) (h : gs_it (fun _ _ => none) (f_X12_unlike_6 x1 x2 x3 r_t_songLong r_t_rows) gs_fuel x4 x5 = some rr) : S_X12_unlike_6 p l e s m args below meth c Q a_t a_t_songLong a_t_rows a_t_firstNote a_t_wit a_t_code a_t_tape a_t_refused a_t_newSongLong a_t_newFirstNote a_t_newWit a_t_newRow a_t_readCode a_t_waits a_t_tested a_t_isTold a_t_ahead a_t_told a_t_pile a_t_common a_t_mostOf a_t_likes a_t_heard a_t_soon a_t_soonAll a_t_imageRow a_t_imageAhead a_t_imageHears x1 x2 x3 x4 x5 :=
  t_X12_unlike_6_n X0 hk hP hD hret  gs_fuel x4 x5 h
def f_X12_unlike (x1 : Int32) (x2 : Int32) (x3 : Int32) (r_t_songLong : Nat → Int32) (r_t_rows : Nat → Int32) : Option (Int32) :=
  gs_it (fun _ _ => none) (f_X12_unlike_6 x1 x2 x3 r_t_songLong r_t_rows) gs_fuel 0 0
set_option maxHeartbeats 4000000 in
set_option maxRecDepth 100000 in
theorem c_X12_unlike (l : Launch) (E : gs_E) (a_t a_t_songLong a_t_rows a_t_firstNote a_t_wit a_t_code a_t_tape a_t_refused a_t_newSongLong a_t_newFirstNote a_t_newWit a_t_newRow a_t_readCode a_t_waits a_t_tested a_t_isTold a_t_ahead a_t_told a_t_pile a_t_common a_t_mostOf a_t_likes a_t_heard a_t_soon a_t_soonAll a_t_imageRow a_t_imageAhead a_t_imageHears : Nat) (v_t_thrown : Int32) (v_t_songs : Int32) (v_t_people : Int32) (v_t_forgetsAt : Int32) (v_t_fillsAt : Int32) (v_t_taped : Int32) (v_t_faultKind : Int32) (v_t_faultPlace : Int32) (v_t_long1 : Int32) (v_t_next0 : Int32) (v_t_sort : Int32) (v_t_place : Int32) (v_t_long0 : Int32) (v_t_value : Int32) (v_t_sign : Int32) (v_t_word : Int64) (v_t_newSongs : Int32) (v_t_newPeople : Int32) (v_t_newForgetsAt : Int32) (v_t_newFillsAt : Int32) (v_t_top : Int32) (v_t_firstValue : Int32) (v_t_lastValue : Int32) (v_t_waiting : Int32) (v_t_depth : Int32) (v_t_acts : Int32) (v_t_isWinter : Int32) (v_t_learntNow : Int32) (v_t_forgottenNow : Int32) (v_t_heardMany : Int32) (v_t_its0 : Int32) (v_t_hasImage : Int32) (v_t_imageActs : Int32) (v_t_imageHeard : Int32) (r_t_songLong : Nat → Int32) (r_t_rows : Nat → Int32) (x1 : Int32) (x2 : Int32) (x3 : Int32) (rr : Int32) (h : f_X12_unlike x1 x2 x3 r_t_songLong r_t_rows = some rr) : gs_MR l yX12_unlike wsX12_unlike rm_X12_unlike [.ref a_t, .int x1, .int x2, .int x3] E (w_X12_unlike E a_t a_t_songLong a_t_rows a_t_firstNote a_t_wit a_t_code a_t_tape a_t_refused a_t_newSongLong a_t_newFirstNote a_t_newWit a_t_newRow a_t_readCode a_t_waits a_t_tested a_t_isTold a_t_ahead a_t_told a_t_pile a_t_common a_t_mostOf a_t_likes a_t_heard a_t_soon a_t_soonAll a_t_imageRow a_t_imageAhead a_t_imageHears v_t_thrown v_t_songs v_t_people v_t_forgetsAt v_t_fillsAt v_t_taped v_t_faultKind v_t_faultPlace v_t_long1 v_t_next0 v_t_sort v_t_place v_t_long0 v_t_value v_t_sign v_t_word v_t_newSongs v_t_newPeople v_t_newForgetsAt v_t_newFillsAt v_t_top v_t_firstValue v_t_lastValue v_t_waiting v_t_depth v_t_acts v_t_isWinter v_t_learntNow v_t_forgottenNow v_t_heardMany v_t_its0 v_t_hasImage v_t_imageActs v_t_imageHeard r_t_songLong r_t_rows) (some (.int rr)) := by
  refine Met.ofW (cc := cX12_unlike) (maxL := 8) (ret := (some .int)) (by decide) rfl ?_
  intro p e s m args below meth c s₁ B hml hv
  obtain ⟨rfl, hP, hk, hD0⟩ := hv
  have X0 : gs_X wsX12_unlike cX12_unlike RX12 8 (some .int) p s m ([.ref a_t, .int x1, .int x2, .int x3] : List Value).toArray meth c := gs_X.of B hml
  obtain ⟨hx, hb, -, hown, hts, hr, hlk⟩ := id X0
  have hD := hD0
  have hret : ∀ (pc : Nat) (ls : Array Slot), decode cX12_unlike pc = .ok (.ireturn, 1) → W p l e rm_X12_unlike s m ([.ref a_t, .int x1, .int x2, .int x3] : List Value).toArray below meth c s.heap [] 0 0 (MQ below (gs_QR (some (.int rr))) ([.ref a_t, .int x1, .int x2, .int x3] : List Value).toArray s 0 0 (fun _ => False)) (F0 m pc ls [.int rr]) := fun pc ls hd => W.iret hx hb hr (fun t ht hW => ⟨rfl, ht⟩) (fun q hq => by cases hq) hd
  have hl := lv_entry ([.ref a_t, .int x1, .int x2, .int x3]) (n := 8) (Nat.le_of_ble_eq_true rfl)
  rw [lg_entry_eq]
  generalize (lg_sl ([.ref a_t, .int x1, .int x2, .int x3]) ++ List.replicate (8 - (lg_sl ([.ref a_t, .int x1, .int x2, .int x3])).length) Slot.unset).toArray = ls at hl ⊢
  have hl : lv_has ls 8 [(0, .ref a_t), (1, .int x1), (2, .int x2), (3, .int x3)] := hl
  unfold f_X12_unlike at h
  refine lv_iconst (v := 0) hx hb dX12_unlike_0 (by decide) ?_
  refine lv_istore (lv' := [(4, .int 0), (0, .ref a_t), (1, .int x1), (2, .int x2), (3, .int x3)]) hx hb dX12_unlike_1 hl (by decide) rfl (fun ls hl => ?_)
  refine lv_iconst (v := 0) hx hb dX12_unlike_3 (by decide) ?_
  refine lv_istore (lv' := [(5, .int 0), (4, .int 0), (0, .ref a_t), (1, .int x1), (2, .int x2), (3, .int x3)]) hx hb dX12_unlike_4 hl (by decide) rfl (fun ls hl => ?_)
  exact t_X12_unlike_6 X0 hk hP hD hret  (h := h) _ (lv_sub hl [2, 3, 4, 5, 1, 0] rfl)

set_option maxRecDepth 100000 in
theorem ggX12_unlikeAll_X12_doesHave : GoodIn wsX12_unlikeAll wsX12_doesHave := goodIn_r _ [6, 7, 16, 17, 18, 19, 20, 21, 22, 23, 24, 25, 26, 27, 28, 29, 30, 31, 32, 33, 34, 35, 36, 37, 38, 39, 40, 41, 42, 43, 44, 45, 46, 47, 48, 49, 50, 51, 52, 53, 54, 55, 56, 57, 58, 59, 60, 61, 62, 63, 64, 65, 66, 67, 68, 69, 70, 71, 72, 73, 74, 75, 76] rfl (by decide +kernel)
set_option maxRecDepth 100000 in
theorem gX12_unlikeAll_X12_doesHave : GoodIn wsX12_unlikeAll (wsV RX12 297 RX12 yX12_doesHave wsX12_doesHave) := goodIn_app (goodIn_of _ (by decide +kernel)) ggX12_unlikeAll_X12_doesHave
set_option maxRecDepth 100000 in
theorem ggX12_unlikeAll_X12_unlike : GoodIn wsX12_unlikeAll wsX12_unlike := goodIn_r _ [11, 12, 7, 13, 14, 5, 15, 16, 17, 18, 19, 20, 21, 22, 23, 24, 25, 26, 27, 28, 29, 30, 31, 32, 33, 34, 35, 36, 37, 38, 39, 40, 41, 42, 43, 44, 45, 46, 47, 48, 49, 50, 51, 52, 53, 54, 55, 56, 57, 58, 59, 60, 61, 62, 63, 64, 65, 66, 67, 68, 69, 70, 71, 72, 73, 74, 75, 76] rfl (by decide +kernel)
set_option maxRecDepth 100000 in
theorem gX12_unlikeAll_X12_unlike : GoodIn wsX12_unlikeAll (wsV RX12 368 RX12 yX12_unlike wsX12_unlike) := goodIn_app (goodIn_of _ (by decide +kernel)) ggX12_unlikeAll_X12_unlike
theorem dX12_unlikeAll_0 : decode cX12_unlikeAll 0 = .ok (.iconst 0, 1) := by decide +kernel
theorem dX12_unlikeAll_1 : decode cX12_unlikeAll 1 = .ok (.istore_n 3, 1) := by decide +kernel
theorem dX12_unlikeAll_2 : decode cX12_unlikeAll 2 = .ok (.iconst 0, 1) := by decide +kernel
theorem dX12_unlikeAll_3 : decode cX12_unlikeAll 3 = .ok (.istore 4, 2) := by decide +kernel
theorem dX12_unlikeAll_5 : decode cX12_unlikeAll 5 = .ok (.iload 4, 2) := by decide +kernel
theorem dX12_unlikeAll_7 : decode cX12_unlikeAll 7 = .ok (.aload_n 0, 1) := by decide +kernel
theorem dX12_unlikeAll_8 : decode cX12_unlikeAll 8 = .ok (.getfield 276, 3) := by decide +kernel
theorem dX12_unlikeAll_11 : decode cX12_unlikeAll 11 = .ok (.if_icmp .ge 41, 3) := by decide +kernel
theorem dX12_unlikeAll_14 : decode cX12_unlikeAll 14 = .ok (.iload_n 3, 1) := by decide +kernel
theorem dX12_unlikeAll_15 : decode cX12_unlikeAll 15 = .ok (.iload 4, 2) := by decide +kernel
theorem dX12_unlikeAll_17 : decode cX12_unlikeAll 17 = .ok (.iload_n 1, 1) := by decide +kernel
theorem dX12_unlikeAll_18 : decode cX12_unlikeAll 18 = .ok (.if_icmp .eq 25, 3) := by decide +kernel
theorem dX12_unlikeAll_21 : decode cX12_unlikeAll 21 = .ok (.aload_n 0, 1) := by decide +kernel
theorem dX12_unlikeAll_22 : decode cX12_unlikeAll 22 = .ok (.iconst 0, 1) := by decide +kernel
theorem dX12_unlikeAll_23 : decode cX12_unlikeAll 23 = .ok (.iload 4, 2) := by decide +kernel
theorem dX12_unlikeAll_25 : decode cX12_unlikeAll 25 = .ok (.iload_n 2, 1) := by decide +kernel
theorem dX12_unlikeAll_26 : decode cX12_unlikeAll 26 = .ok (.invokevirtual 297, 3) := by decide +kernel
theorem dX12_unlikeAll_29 : decode cX12_unlikeAll 29 = .ok (.ifCond .eq 14, 3) := by decide +kernel
theorem dX12_unlikeAll_32 : decode cX12_unlikeAll 32 = .ok (.aload_n 0, 1) := by decide +kernel
theorem dX12_unlikeAll_33 : decode cX12_unlikeAll 33 = .ok (.iload_n 1, 1) := by decide +kernel
theorem dX12_unlikeAll_34 : decode cX12_unlikeAll 34 = .ok (.iload 4, 2) := by decide +kernel
theorem dX12_unlikeAll_36 : decode cX12_unlikeAll 36 = .ok (.iload_n 2, 1) := by decide +kernel
theorem dX12_unlikeAll_37 : decode cX12_unlikeAll 37 = .ok (.invokevirtual 368, 3) := by decide +kernel
theorem dX12_unlikeAll_40 : decode cX12_unlikeAll 40 = .ok (.goto 4, 3) := by decide +kernel
theorem dX12_unlikeAll_43 : decode cX12_unlikeAll 43 = .ok (.iconst 0, 1) := by decide +kernel
theorem dX12_unlikeAll_44 : decode cX12_unlikeAll 44 = .ok (.iadd, 1) := by decide +kernel
theorem dX12_unlikeAll_45 : decode cX12_unlikeAll 45 = .ok (.istore_n 3, 1) := by decide +kernel
theorem dX12_unlikeAll_46 : decode cX12_unlikeAll 46 = .ok (.iinc 4 1, 3) := by decide +kernel
theorem dX12_unlikeAll_49 : decode cX12_unlikeAll 49 = .ok (.goto (-44), 3) := by decide +kernel
theorem dX12_unlikeAll_52 : decode cX12_unlikeAll 52 = .ok (.iload_n 3, 1) := by decide +kernel
theorem dX12_unlikeAll_53 : decode cX12_unlikeAll 53 = .ok (.ireturn, 1) := by decide +kernel
abbrev w_X12_unlikeAll (E : gs_E) (a_t a_t_songLong a_t_rows a_t_firstNote a_t_wit a_t_code a_t_tape a_t_refused a_t_newSongLong a_t_newFirstNote a_t_newWit a_t_newRow a_t_readCode a_t_waits a_t_tested a_t_isTold a_t_ahead a_t_told a_t_pile a_t_common a_t_mostOf a_t_likes a_t_heard a_t_soon a_t_soonAll a_t_imageRow a_t_imageAhead a_t_imageHears : Nat) (v_t_thrown : Int32) (v_t_songs : Int32) (v_t_people : Int32) (v_t_forgetsAt : Int32) (v_t_fillsAt : Int32) (v_t_taped : Int32) (v_t_faultKind : Int32) (v_t_faultPlace : Int32) (v_t_long1 : Int32) (v_t_next0 : Int32) (v_t_sort : Int32) (v_t_place : Int32) (v_t_long0 : Int32) (v_t_value : Int32) (v_t_sign : Int32) (v_t_word : Int64) (v_t_newSongs : Int32) (v_t_newPeople : Int32) (v_t_newForgetsAt : Int32) (v_t_newFillsAt : Int32) (v_t_top : Int32) (v_t_firstValue : Int32) (v_t_lastValue : Int32) (v_t_waiting : Int32) (v_t_depth : Int32) (v_t_acts : Int32) (v_t_isWinter : Int32) (v_t_learntNow : Int32) (v_t_forgottenNow : Int32) (v_t_heardMany : Int32) (v_t_its0 : Int32) (v_t_hasImage : Int32) (v_t_imageActs : Int32) (v_t_imageHeard : Int32) (r_t_songLong : Nat → Int32) (r_t_rows : Nat → Int32) : va_W := [(a_t, .inr (12, [.int v_t_thrown, .int v_t_songs, .int v_t_people, .int v_t_forgetsAt, .int v_t_fillsAt, .ref a_t_songLong, .ref a_t_firstNote, .ref a_t_wit, .ref a_t_code, .ref a_t_tape, .int v_t_taped, .int v_t_faultKind, .int v_t_faultPlace, .ref a_t_refused, .int v_t_long1, .int v_t_next0, .int v_t_sort, .int v_t_place, .int v_t_long0, .int v_t_value, .int v_t_sign, .long v_t_word, .int v_t_newSongs, .int v_t_newPeople, .int v_t_newForgetsAt, .int v_t_newFillsAt, .int v_t_top, .int v_t_firstValue, .int v_t_lastValue, .int v_t_waiting, .int v_t_depth, .ref a_t_newSongLong, .ref a_t_newFirstNote, .ref a_t_newWit, .ref a_t_newRow, .ref a_t_readCode, .ref a_t_waits, .ref a_t_tested, .ref a_t_isTold, .ref a_t_rows, .ref a_t_ahead, .int v_t_acts, .ref a_t_told, .ref a_t_pile, .int v_t_isWinter, .int v_t_learntNow, .int v_t_forgottenNow, .ref a_t_common, .ref a_t_mostOf, .ref a_t_likes, .int v_t_heardMany, .ref a_t_heard, .ref a_t_soon, .ref a_t_soonAll, .int v_t_its0, .int v_t_hasImage, .int v_t_imageActs, .int v_t_imageHeard, .ref a_t_imageRow, .ref a_t_imageAhead, .ref a_t_imageHears])), (a_t_songLong, .inl (E.2.1, 5, .inl r_t_songLong)), (a_t_rows, .inl (E.2.1, 744, .inl r_t_rows))]
abbrev rm_X12_unlikeAll : Room := { frames := 2, cells := 0, slots := 0, locals := 49 }
def S_X12_unlikeAll_5 (p : Program) (l : Launch) (e : Env) (s : State) (m : MethodId) (args : Array Value) (below : List Frame) (meth : Method) (c : Code) (Q : State → Prop) (a_t a_t_songLong a_t_rows a_t_firstNote a_t_wit a_t_code a_t_tape a_t_refused a_t_newSongLong a_t_newFirstNote a_t_newWit a_t_newRow a_t_readCode a_t_waits a_t_tested a_t_isTold a_t_ahead a_t_told a_t_pile a_t_common a_t_mostOf a_t_likes a_t_heard a_t_soon a_t_soonAll a_t_imageRow a_t_imageAhead a_t_imageHears : Nat) (x1 : Int32) (x2 : Int32) (x3 : Int32) (x4 : Int32) : Prop := ∀ (ls : Array Slot), lv_has ls 5 [(0, .ref a_t), (1, .int x1), (2, .int x2), (3, .int x3), (4, .int x4)] → W p l e rm_X12_unlikeAll s m args below meth c s.heap [] 0 0 Q (F0 m 5 ls [])
def f_X12_unlikeAll_5 (x1 : Int32) (x2 : Int32) (v_t_people : Int32) (r_t_songLong : Nat → Int32) (r_t_rows : Nat → Int32) (K5 : Int32 → Int32 → Option (Int32)) (x3 : Int32) (x4 : Int32) : Option (Int32) :=
  if v_t_people ≤ x4 then
    some x3
  else
    if x4 = x1 then
      K5 (x3 + 0) (x4 + 1)
    else
      gs_b1 (f_X12_doesHave 0 x4 x2 r_t_rows) fun r3 =>
      if r3 = 0 then
        K5 (x3 + 0) (x4 + 1)
      else
        gs_b1 (f_X12_unlike x1 x4 x2 r_t_songLong r_t_rows) fun r5 =>
        K5 (x3 + r5) (x4 + 1)
set_option maxHeartbeats 4000000 in
set_option maxRecDepth 100000 in
theorem t_X12_unlikeAll_5_b {p : Program} {l : Launch} {e : Env} {s : State} {m : MethodId} {args : Array Value} {below : List Frame} {meth : Method} {c : Code} {Q : State → Prop} {E : gs_E} {a_t a_t_songLong a_t_rows a_t_firstNote a_t_wit a_t_code a_t_tape a_t_refused a_t_newSongLong a_t_newFirstNote a_t_newWit a_t_newRow a_t_readCode a_t_waits a_t_tested a_t_isTold a_t_ahead a_t_told a_t_pile a_t_common a_t_mostOf a_t_likes a_t_heard a_t_soon a_t_soonAll a_t_imageRow a_t_imageAhead a_t_imageHears : Nat} {v_t_thrown : Int32} {v_t_songs : Int32} {v_t_people : Int32} {v_t_forgetsAt : Int32} {v_t_fillsAt : Int32} {v_t_taped : Int32} {v_t_faultKind : Int32} {v_t_faultPlace : Int32} {v_t_long1 : Int32} {v_t_next0 : Int32} {v_t_sort : Int32} {v_t_place : Int32} {v_t_long0 : Int32} {v_t_value : Int32} {v_t_sign : Int32} {v_t_word : Int64} {v_t_newSongs : Int32} {v_t_newPeople : Int32} {v_t_newForgetsAt : Int32} {v_t_newFillsAt : Int32} {v_t_top : Int32} {v_t_firstValue : Int32} {v_t_lastValue : Int32} {v_t_waiting : Int32} {v_t_depth : Int32} {v_t_acts : Int32} {v_t_isWinter : Int32} {v_t_learntNow : Int32} {v_t_forgottenNow : Int32} {v_t_heardMany : Int32} {v_t_its0 : Int32} {v_t_hasImage : Int32} {v_t_imageActs : Int32} {v_t_imageHeard : Int32} {r_t_songLong : Nat → Int32} {r_t_rows : Nat → Int32} {rr : Int32} (X0 : gs_X wsX12_unlikeAll cX12_unlikeAll RX12 5 (some .int) p s m args meth c) (hk : gs_K E s) (hP : va_P E.1 vwCl (w_X12_unlikeAll E a_t a_t_songLong a_t_rows a_t_firstNote a_t_wit a_t_code a_t_tape a_t_refused a_t_newSongLong a_t_newFirstNote a_t_newWit a_t_newRow a_t_readCode a_t_waits a_t_tested a_t_isTold a_t_ahead a_t_told a_t_pile a_t_common a_t_mostOf a_t_likes a_t_heard a_t_soon a_t_soonAll a_t_imageRow a_t_imageAhead a_t_imageHears v_t_thrown v_t_songs v_t_people v_t_forgetsAt v_t_fillsAt v_t_taped v_t_faultKind v_t_faultPlace v_t_long1 v_t_next0 v_t_sort v_t_place v_t_long0 v_t_value v_t_sign v_t_word v_t_newSongs v_t_newPeople v_t_newForgetsAt v_t_newFillsAt v_t_top v_t_firstValue v_t_lastValue v_t_waiting v_t_depth v_t_acts v_t_isWinter v_t_learntNow v_t_forgottenNow v_t_heardMany v_t_its0 v_t_hasImage v_t_imageActs v_t_imageHeard r_t_songLong r_t_rows) s.heap) (hD : va_D (fun _ => True) (w_X12_unlikeAll E a_t a_t_songLong a_t_rows a_t_firstNote a_t_wit a_t_code a_t_tape a_t_refused a_t_newSongLong a_t_newFirstNote a_t_newWit a_t_newRow a_t_readCode a_t_waits a_t_tested a_t_isTold a_t_ahead a_t_told a_t_pile a_t_common a_t_mostOf a_t_likes a_t_heard a_t_soon a_t_soonAll a_t_imageRow a_t_imageAhead a_t_imageHears v_t_thrown v_t_songs v_t_people v_t_forgetsAt v_t_fillsAt v_t_taped v_t_faultKind v_t_faultPlace v_t_long1 v_t_next0 v_t_sort v_t_place v_t_long0 v_t_value v_t_sign v_t_word v_t_newSongs v_t_newPeople v_t_newForgetsAt v_t_newFillsAt v_t_top v_t_firstValue v_t_lastValue v_t_waiting v_t_depth v_t_acts v_t_isWinter v_t_learntNow v_t_forgottenNow v_t_heardMany v_t_its0 v_t_hasImage v_t_imageActs v_t_imageHeard r_t_songLong r_t_rows)) {x1 : Int32} {x2 : Int32} {x3 : Int32} {x4 : Int32} (hret : ∀ (pc : Nat) (ls : Array Slot), decode cX12_unlikeAll pc = .ok (.ireturn, 1) → W p l e rm_X12_unlikeAll s m args below meth c s.heap [] 0 0 Q (F0 m pc ls [.int rr])) {K5 : Int32 → Int32 → Option (Int32)} (hK5 : ∀ (x3 : Int32) (x4 : Int32), K5 x3 x4 = some rr → S_X12_unlikeAll_5 p l e s m args below meth c Q a_t a_t_songLong a_t_rows a_t_firstNote a_t_wit a_t_code a_t_tape a_t_refused a_t_newSongLong a_t_newFirstNote a_t_newWit a_t_newRow a_t_readCode a_t_waits a_t_tested a_t_isTold a_t_ahead a_t_told a_t_pile a_t_common a_t_mostOf a_t_likes a_t_heard a_t_soon a_t_soonAll a_t_imageRow a_t_imageAhead a_t_imageHears x1 x2 x3 x4) (h : f_X12_unlikeAll_5 x1 x2 v_t_people r_t_songLong r_t_rows K5 x3 x4 = some rr) : S_X12_unlikeAll_5 p l e s m args below meth c Q a_t a_t_songLong a_t_rows a_t_firstNote a_t_wit a_t_code a_t_tape a_t_refused a_t_newSongLong a_t_newFirstNote a_t_newWit a_t_newRow a_t_readCode a_t_waits a_t_tested a_t_isTold a_t_ahead a_t_told a_t_pile a_t_common a_t_mostOf a_t_likes a_t_heard a_t_soon a_t_soonAll a_t_imageRow a_t_imageAhead a_t_imageHears x1 x2 x3 x4 := by
  obtain ⟨hx, hb, hml, hown, hts, hr, hlk⟩ := id X0
  intro ls hl
  unfold f_X12_unlikeAll_5 at h
  refine lv_iload hx hb dX12_unlikeAll_5 (lv_at hl 4 rfl) ?_
  refine lv_aload_n hx hb dX12_unlikeAll_7 rfl (lv_at hl 0 rfl) ?_
  refine va_get (D := E.1) (ci := 12) (v := .int v_t_people) (C := RX12) (T := TX12) (N := 61) hx hb hts (fun _ h => (List.mem_cons_of_mem _ (List.mem_append_right _ h))) hown hk.1 hP 0 rfl rfl 2 (by decide) (hts (.fieldLink RX12 276 "GapSongsModel" "people" "I") (List.mem_cons_of_mem _ (List.mem_append_left _ (List.mem_of_getElem? (i := 0) rfl)))) (fun _ h9 => h9) rfl dX12_unlikeAll_8 ?_
  refine lv_icmp_ge (tgt := 52) hx hb dX12_unlikeAll_11 (by decide) (fun c1 => ?_) (fun c1 => ?_)
  · replace h := gs_ift c1 h
    refine lv_iload_n hx hb dX12_unlikeAll_52 rfl (lv_at hl 3 rfl) ?_
    have h := Option.some.inj h
    subst h
    exact hret _ _ dX12_unlikeAll_53
  · replace h := gs_iff c1 h
    refine lv_iload_n hx hb dX12_unlikeAll_14 rfl (lv_at hl 3 rfl) ?_
    refine lv_iload hx hb dX12_unlikeAll_15 (lv_at hl 4 rfl) ?_
    refine lv_iload_n hx hb dX12_unlikeAll_17 rfl (lv_at hl 1 rfl) ?_
    refine lv_icmp_eq (tgt := 43) hx hb dX12_unlikeAll_18 (by decide) (fun c2 => ?_) (fun c2 => ?_)
    · replace h := gs_ift c2 h
      refine lv_iconst (v := 0) hx hb dX12_unlikeAll_43 (by decide) ?_
      refine lv_iadd hx hb dX12_unlikeAll_44 ?_
      refine lv_istore_n (lv' := [(3, .int (x3 + 0)), (0, .ref a_t), (1, .int x1), (2, .int x2), (4, .int x4)]) hx hb dX12_unlikeAll_45 rfl hl (by decide) rfl (fun ls hl => ?_)
      refine lv_iinc (v := x4 + 1) (lv' := [(4, .int (x4 + 1)), (3, .int (x3 + 0)), (0, .ref a_t), (1, .int x1), (2, .int x2)]) hx hb dX12_unlikeAll_46 hl (k := 4) rfl rfl (by decide) rfl (fun ls hl => ?_)
      refine lv_goto (tgt := 5) hx hb dX12_unlikeAll_49 (by decide) ?_
      exact hK5 (x3 + 0) (x4 + 1) h _ (lv_sub hl [2, 3, 4, 1, 0] rfl)
    · replace h := gs_iff c2 h
      refine lv_aload_n hx hb dX12_unlikeAll_21 rfl (lv_at hl 0 rfl) ?_
      refine lv_iconst (v := 0) hx hb dX12_unlikeAll_22 (by decide) ?_
      refine lv_iload hx hb dX12_unlikeAll_23 (lv_at hl 4 rfl) ?_
      refine lv_iload_n hx hb dX12_unlikeAll_25 rfl (lv_at hl 2 rfl) ?_
      obtain ⟨r3, hz3, h⟩ := gs_b1_e h
      refine gs_backRi (va_runV (As := [.int 0, .int x4, .int x2]) (rest := [.int x3]) ⟨hx, hb, hml, hown, hts⟩ (c_X12_doesHave l E a_t a_t_rows a_t_songLong a_t_firstNote a_t_wit a_t_code a_t_tape a_t_refused a_t_newSongLong a_t_newFirstNote a_t_newWit a_t_newRow a_t_readCode a_t_waits a_t_tested a_t_isTold a_t_ahead a_t_told a_t_pile a_t_common a_t_mostOf a_t_likes a_t_heard a_t_soon a_t_soonAll a_t_imageRow a_t_imageAhead a_t_imageHears v_t_thrown v_t_songs v_t_people v_t_forgetsAt v_t_fillsAt v_t_taped v_t_faultKind v_t_faultPlace v_t_long1 v_t_next0 v_t_sort v_t_place v_t_long0 v_t_value v_t_sign v_t_word v_t_newSongs v_t_newPeople v_t_newForgetsAt v_t_newFillsAt v_t_top v_t_firstValue v_t_lastValue v_t_waiting v_t_depth v_t_acts v_t_isWinter v_t_learntNow v_t_forgottenNow v_t_heardMany v_t_its0 v_t_hasImage v_t_imageActs v_t_imageHeard r_t_rows 0 x4 x2 r3 hz3) (cwV 3 hts gX12_unlikeAll_X12_doesHave rfl rfl rfl (by decide +kernel) ⟨Nat.le_of_ble_eq_true rfl, Nat.le_of_ble_eq_true rfl⟩) (gs_preV (ci := 12) hk hP hD (is := [0, 2]) rfl rfl rfl rfl) rfl rfl hl.1 rfl (lv_room (Nat.le_of_ble_eq_true rfl)) dX12_unlikeAll_26 ⟨Nat.zero_le _, Nat.zero_le _⟩) ?_
      refine lv_if_eq (tgt := 43) hx hb dX12_unlikeAll_29 (by decide) (fun c4 => ?_) (fun c4 => ?_)
      · replace h := gs_ift c4 h
        refine lv_iconst (v := 0) hx hb dX12_unlikeAll_43 (by decide) ?_
        refine lv_iadd hx hb dX12_unlikeAll_44 ?_
        refine lv_istore_n (lv' := [(3, .int (x3 + 0)), (0, .ref a_t), (1, .int x1), (2, .int x2), (4, .int x4)]) hx hb dX12_unlikeAll_45 rfl hl (by decide) rfl (fun ls hl => ?_)
        refine lv_iinc (v := x4 + 1) (lv' := [(4, .int (x4 + 1)), (3, .int (x3 + 0)), (0, .ref a_t), (1, .int x1), (2, .int x2)]) hx hb dX12_unlikeAll_46 hl (k := 4) rfl rfl (by decide) rfl (fun ls hl => ?_)
        refine lv_goto (tgt := 5) hx hb dX12_unlikeAll_49 (by decide) ?_
        exact hK5 (x3 + 0) (x4 + 1) h _ (lv_sub hl [2, 3, 4, 1, 0] rfl)
      · replace h := gs_iff c4 h
        refine lv_aload_n hx hb dX12_unlikeAll_32 rfl (lv_at hl 0 rfl) ?_
        refine lv_iload_n hx hb dX12_unlikeAll_33 rfl (lv_at hl 1 rfl) ?_
        refine lv_iload hx hb dX12_unlikeAll_34 (lv_at hl 4 rfl) ?_
        refine lv_iload_n hx hb dX12_unlikeAll_36 rfl (lv_at hl 2 rfl) ?_
        obtain ⟨r5, hz5, h⟩ := gs_b1_e h
        refine gs_backRi (va_runV (As := [.int x1, .int x4, .int x2]) (rest := [.int x3]) ⟨hx, hb, hml, hown, hts⟩ (c_X12_unlike l E a_t a_t_songLong a_t_rows a_t_firstNote a_t_wit a_t_code a_t_tape a_t_refused a_t_newSongLong a_t_newFirstNote a_t_newWit a_t_newRow a_t_readCode a_t_waits a_t_tested a_t_isTold a_t_ahead a_t_told a_t_pile a_t_common a_t_mostOf a_t_likes a_t_heard a_t_soon a_t_soonAll a_t_imageRow a_t_imageAhead a_t_imageHears v_t_thrown v_t_songs v_t_people v_t_forgetsAt v_t_fillsAt v_t_taped v_t_faultKind v_t_faultPlace v_t_long1 v_t_next0 v_t_sort v_t_place v_t_long0 v_t_value v_t_sign v_t_word v_t_newSongs v_t_newPeople v_t_newForgetsAt v_t_newFillsAt v_t_top v_t_firstValue v_t_lastValue v_t_waiting v_t_depth v_t_acts v_t_isWinter v_t_learntNow v_t_forgottenNow v_t_heardMany v_t_its0 v_t_hasImage v_t_imageActs v_t_imageHeard r_t_songLong r_t_rows x1 x4 x2 r5 hz5) (cwV 3 hts gX12_unlikeAll_X12_unlike rfl rfl rfl (by decide +kernel) ⟨Nat.le_of_ble_eq_true rfl, Nat.le_of_ble_eq_true rfl⟩) (gs_preV (ci := 12) hk hP hD (is := [0, 1, 2]) rfl rfl rfl rfl) rfl rfl hl.1 rfl (lv_room (Nat.le_of_ble_eq_true rfl)) dX12_unlikeAll_37 ⟨Nat.zero_le _, Nat.zero_le _⟩) ?_
        refine lv_goto (tgt := 44) hx hb dX12_unlikeAll_40 (by decide) ?_
        refine lv_iadd hx hb dX12_unlikeAll_44 ?_
        refine lv_istore_n (lv' := [(3, .int (x3 + r5)), (0, .ref a_t), (1, .int x1), (2, .int x2), (4, .int x4)]) hx hb dX12_unlikeAll_45 rfl hl (by decide) rfl (fun ls hl => ?_)
        refine lv_iinc (v := x4 + 1) (lv' := [(4, .int (x4 + 1)), (3, .int (x3 + r5)), (0, .ref a_t), (1, .int x1), (2, .int x2)]) hx hb dX12_unlikeAll_46 hl (k := 4) rfl rfl (by decide) rfl (fun ls hl => ?_)
        refine lv_goto (tgt := 5) hx hb dX12_unlikeAll_49 (by decide) ?_
        exact hK5 (x3 + r5) (x4 + 1) h _ (lv_sub hl [2, 3, 4, 1, 0] rfl)
set_option maxHeartbeats 4000000 in
set_option maxRecDepth 100000 in
theorem t_X12_unlikeAll_5_n {p : Program} {l : Launch} {e : Env} {s : State} {m : MethodId} {args : Array Value} {below : List Frame} {meth : Method} {c : Code} {Q : State → Prop} {E : gs_E} {a_t a_t_songLong a_t_rows a_t_firstNote a_t_wit a_t_code a_t_tape a_t_refused a_t_newSongLong a_t_newFirstNote a_t_newWit a_t_newRow a_t_readCode a_t_waits a_t_tested a_t_isTold a_t_ahead a_t_told a_t_pile a_t_common a_t_mostOf a_t_likes a_t_heard a_t_soon a_t_soonAll a_t_imageRow a_t_imageAhead a_t_imageHears : Nat} {v_t_thrown : Int32} {v_t_songs : Int32} {v_t_people : Int32} {v_t_forgetsAt : Int32} {v_t_fillsAt : Int32} {v_t_taped : Int32} {v_t_faultKind : Int32} {v_t_faultPlace : Int32} {v_t_long1 : Int32} {v_t_next0 : Int32} {v_t_sort : Int32} {v_t_place : Int32} {v_t_long0 : Int32} {v_t_value : Int32} {v_t_sign : Int32} {v_t_word : Int64} {v_t_newSongs : Int32} {v_t_newPeople : Int32} {v_t_newForgetsAt : Int32} {v_t_newFillsAt : Int32} {v_t_top : Int32} {v_t_firstValue : Int32} {v_t_lastValue : Int32} {v_t_waiting : Int32} {v_t_depth : Int32} {v_t_acts : Int32} {v_t_isWinter : Int32} {v_t_learntNow : Int32} {v_t_forgottenNow : Int32} {v_t_heardMany : Int32} {v_t_its0 : Int32} {v_t_hasImage : Int32} {v_t_imageActs : Int32} {v_t_imageHeard : Int32} {r_t_songLong : Nat → Int32} {r_t_rows : Nat → Int32} {rr : Int32} (X0 : gs_X wsX12_unlikeAll cX12_unlikeAll RX12 5 (some .int) p s m args meth c) (hk : gs_K E s) (hP : va_P E.1 vwCl (w_X12_unlikeAll E a_t a_t_songLong a_t_rows a_t_firstNote a_t_wit a_t_code a_t_tape a_t_refused a_t_newSongLong a_t_newFirstNote a_t_newWit a_t_newRow a_t_readCode a_t_waits a_t_tested a_t_isTold a_t_ahead a_t_told a_t_pile a_t_common a_t_mostOf a_t_likes a_t_heard a_t_soon a_t_soonAll a_t_imageRow a_t_imageAhead a_t_imageHears v_t_thrown v_t_songs v_t_people v_t_forgetsAt v_t_fillsAt v_t_taped v_t_faultKind v_t_faultPlace v_t_long1 v_t_next0 v_t_sort v_t_place v_t_long0 v_t_value v_t_sign v_t_word v_t_newSongs v_t_newPeople v_t_newForgetsAt v_t_newFillsAt v_t_top v_t_firstValue v_t_lastValue v_t_waiting v_t_depth v_t_acts v_t_isWinter v_t_learntNow v_t_forgottenNow v_t_heardMany v_t_its0 v_t_hasImage v_t_imageActs v_t_imageHeard r_t_songLong r_t_rows) s.heap) (hD : va_D (fun _ => True) (w_X12_unlikeAll E a_t a_t_songLong a_t_rows a_t_firstNote a_t_wit a_t_code a_t_tape a_t_refused a_t_newSongLong a_t_newFirstNote a_t_newWit a_t_newRow a_t_readCode a_t_waits a_t_tested a_t_isTold a_t_ahead a_t_told a_t_pile a_t_common a_t_mostOf a_t_likes a_t_heard a_t_soon a_t_soonAll a_t_imageRow a_t_imageAhead a_t_imageHears v_t_thrown v_t_songs v_t_people v_t_forgetsAt v_t_fillsAt v_t_taped v_t_faultKind v_t_faultPlace v_t_long1 v_t_next0 v_t_sort v_t_place v_t_long0 v_t_value v_t_sign v_t_word v_t_newSongs v_t_newPeople v_t_newForgetsAt v_t_newFillsAt v_t_top v_t_firstValue v_t_lastValue v_t_waiting v_t_depth v_t_acts v_t_isWinter v_t_learntNow v_t_forgottenNow v_t_heardMany v_t_its0 v_t_hasImage v_t_imageActs v_t_imageHeard r_t_songLong r_t_rows)) {x1 : Int32} {x2 : Int32} (hret : ∀ (pc : Nat) (ls : Array Slot), decode cX12_unlikeAll pc = .ok (.ireturn, 1) → W p l e rm_X12_unlikeAll s m args below meth c s.heap [] 0 0 Q (F0 m pc ls [.int rr])) : ∀ (n : Nat) (x3 : Int32) (x4 : Int32), gs_it (fun _ _ => none) (f_X12_unlikeAll_5 x1 x2 v_t_people r_t_songLong r_t_rows) n x3 x4 = some rr → S_X12_unlikeAll_5 p l e s m args below meth c Q a_t a_t_songLong a_t_rows a_t_firstNote a_t_wit a_t_code a_t_tape a_t_refused a_t_newSongLong a_t_newFirstNote a_t_newWit a_t_newRow a_t_readCode a_t_waits a_t_tested a_t_isTold a_t_ahead a_t_told a_t_pile a_t_common a_t_mostOf a_t_likes a_t_heard a_t_soon a_t_soonAll a_t_imageRow a_t_imageAhead a_t_imageHears x1 x2 x3 x4 := by
  intro n
  induction n with
  | zero =>
    intro x3 x4 h
    have h : (none : Option (Int32)) = some rr := h
    cases h
  | succ n ih =>
    intro x3 x4 h
    exact t_X12_unlikeAll_5_b X0 hk hP hD hret  (K5 := gs_it (fun _ _ => none) (f_X12_unlikeAll_5 x1 x2 v_t_people r_t_songLong r_t_rows) n) (hK5 := ih) (h := h)
theorem t_X12_unlikeAll_5 {p : Program} {l : Launch} {e : Env} {s : State} {m : MethodId} {args : Array Value} {below : List Frame} {meth : Method} {c : Code} {Q : State → Prop} {E : gs_E} {a_t a_t_songLong a_t_rows a_t_firstNote a_t_wit a_t_code a_t_tape a_t_refused a_t_newSongLong a_t_newFirstNote a_t_newWit a_t_newRow a_t_readCode a_t_waits a_t_tested a_t_isTold a_t_ahead a_t_told a_t_pile a_t_common a_t_mostOf a_t_likes a_t_heard a_t_soon a_t_soonAll a_t_imageRow a_t_imageAhead a_t_imageHears : Nat} {v_t_thrown : Int32} {v_t_songs : Int32} {v_t_people : Int32} {v_t_forgetsAt : Int32} {v_t_fillsAt : Int32} {v_t_taped : Int32} {v_t_faultKind : Int32} {v_t_faultPlace : Int32} {v_t_long1 : Int32} {v_t_next0 : Int32} {v_t_sort : Int32} {v_t_place : Int32} {v_t_long0 : Int32} {v_t_value : Int32} {v_t_sign : Int32} {v_t_word : Int64} {v_t_newSongs : Int32} {v_t_newPeople : Int32} {v_t_newForgetsAt : Int32} {v_t_newFillsAt : Int32} {v_t_top : Int32} {v_t_firstValue : Int32} {v_t_lastValue : Int32} {v_t_waiting : Int32} {v_t_depth : Int32} {v_t_acts : Int32} {v_t_isWinter : Int32} {v_t_learntNow : Int32} {v_t_forgottenNow : Int32} {v_t_heardMany : Int32} {v_t_its0 : Int32} {v_t_hasImage : Int32} {v_t_imageActs : Int32} {v_t_imageHeard : Int32} {r_t_songLong : Nat → Int32} {r_t_rows : Nat → Int32} {rr : Int32} (X0 : gs_X wsX12_unlikeAll cX12_unlikeAll RX12 5 (some .int) p s m args meth c) (hk : gs_K E s) (hP : va_P E.1 vwCl (w_X12_unlikeAll E a_t a_t_songLong a_t_rows a_t_firstNote a_t_wit a_t_code a_t_tape a_t_refused a_t_newSongLong a_t_newFirstNote a_t_newWit a_t_newRow a_t_readCode a_t_waits a_t_tested a_t_isTold a_t_ahead a_t_told a_t_pile a_t_common a_t_mostOf a_t_likes a_t_heard a_t_soon a_t_soonAll a_t_imageRow a_t_imageAhead a_t_imageHears v_t_thrown v_t_songs v_t_people v_t_forgetsAt v_t_fillsAt v_t_taped v_t_faultKind v_t_faultPlace v_t_long1 v_t_next0 v_t_sort v_t_place v_t_long0 v_t_value v_t_sign v_t_word v_t_newSongs v_t_newPeople v_t_newForgetsAt v_t_newFillsAt v_t_top v_t_firstValue v_t_lastValue v_t_waiting v_t_depth v_t_acts v_t_isWinter v_t_learntNow v_t_forgottenNow v_t_heardMany v_t_its0 v_t_hasImage v_t_imageActs v_t_imageHeard r_t_songLong r_t_rows) s.heap) (hD : va_D (fun _ => True) (w_X12_unlikeAll E a_t a_t_songLong a_t_rows a_t_firstNote a_t_wit a_t_code a_t_tape a_t_refused a_t_newSongLong a_t_newFirstNote a_t_newWit a_t_newRow a_t_readCode a_t_waits a_t_tested a_t_isTold a_t_ahead a_t_told a_t_pile a_t_common a_t_mostOf a_t_likes a_t_heard a_t_soon a_t_soonAll a_t_imageRow a_t_imageAhead a_t_imageHears v_t_thrown v_t_songs v_t_people v_t_forgetsAt v_t_fillsAt v_t_taped v_t_faultKind v_t_faultPlace v_t_long1 v_t_next0 v_t_sort v_t_place v_t_long0 v_t_value v_t_sign v_t_word v_t_newSongs v_t_newPeople v_t_newForgetsAt v_t_newFillsAt v_t_top v_t_firstValue v_t_lastValue v_t_waiting v_t_depth v_t_acts v_t_isWinter v_t_learntNow v_t_forgottenNow v_t_heardMany v_t_its0 v_t_hasImage v_t_imageActs v_t_imageHeard r_t_songLong r_t_rows)) {x1 : Int32} {x2 : Int32} {x3 : Int32} {x4 : Int32} (hret : ∀ (pc : Nat) (ls : Array Slot), decode cX12_unlikeAll pc = .ok (.ireturn, 1) → W p l e rm_X12_unlikeAll s m args below meth c s.heap [] 0 0 Q (F0 m pc ls [.int rr])) (h : gs_it (fun _ _ => none) (f_X12_unlikeAll_5 x1 x2 v_t_people r_t_songLong r_t_rows) gs_fuel x3 x4 = some rr) : S_X12_unlikeAll_5 p l e s m args below meth c Q a_t a_t_songLong a_t_rows a_t_firstNote a_t_wit a_t_code a_t_tape a_t_refused a_t_newSongLong a_t_newFirstNote a_t_newWit a_t_newRow a_t_readCode a_t_waits a_t_tested a_t_isTold a_t_ahead a_t_told a_t_pile a_t_common a_t_mostOf a_t_likes a_t_heard a_t_soon a_t_soonAll a_t_imageRow a_t_imageAhead a_t_imageHears x1 x2 x3 x4 :=
  t_X12_unlikeAll_5_n X0 hk hP hD hret  gs_fuel x3 x4 h
def f_X12_unlikeAll (x1 : Int32) (x2 : Int32) (v_t_people : Int32) (r_t_songLong : Nat → Int32) (r_t_rows : Nat → Int32) : Option (Int32) :=
  gs_it (fun _ _ => none) (f_X12_unlikeAll_5 x1 x2 v_t_people r_t_songLong r_t_rows) gs_fuel 0 0
set_option maxHeartbeats 4000000 in
set_option maxRecDepth 100000 in
theorem c_X12_unlikeAll (l : Launch) (E : gs_E) (a_t a_t_songLong a_t_rows a_t_firstNote a_t_wit a_t_code a_t_tape a_t_refused a_t_newSongLong a_t_newFirstNote a_t_newWit a_t_newRow a_t_readCode a_t_waits a_t_tested a_t_isTold a_t_ahead a_t_told a_t_pile a_t_common a_t_mostOf a_t_likes a_t_heard a_t_soon a_t_soonAll a_t_imageRow a_t_imageAhead a_t_imageHears : Nat) (v_t_thrown : Int32) (v_t_songs : Int32) (v_t_people : Int32) (v_t_forgetsAt : Int32) (v_t_fillsAt : Int32) (v_t_taped : Int32) (v_t_faultKind : Int32) (v_t_faultPlace : Int32) (v_t_long1 : Int32) (v_t_next0 : Int32) (v_t_sort : Int32) (v_t_place : Int32) (v_t_long0 : Int32) (v_t_value : Int32) (v_t_sign : Int32) (v_t_word : Int64) (v_t_newSongs : Int32) (v_t_newPeople : Int32) (v_t_newForgetsAt : Int32) (v_t_newFillsAt : Int32) (v_t_top : Int32) (v_t_firstValue : Int32) (v_t_lastValue : Int32) (v_t_waiting : Int32) (v_t_depth : Int32) (v_t_acts : Int32) (v_t_isWinter : Int32) (v_t_learntNow : Int32) (v_t_forgottenNow : Int32) (v_t_heardMany : Int32) (v_t_its0 : Int32) (v_t_hasImage : Int32) (v_t_imageActs : Int32) (v_t_imageHeard : Int32) (r_t_songLong : Nat → Int32) (r_t_rows : Nat → Int32) (x1 : Int32) (x2 : Int32) (rr : Int32) (h : f_X12_unlikeAll x1 x2 v_t_people r_t_songLong r_t_rows = some rr) : gs_MR l yX12_unlikeAll wsX12_unlikeAll rm_X12_unlikeAll [.ref a_t, .int x1, .int x2] E (w_X12_unlikeAll E a_t a_t_songLong a_t_rows a_t_firstNote a_t_wit a_t_code a_t_tape a_t_refused a_t_newSongLong a_t_newFirstNote a_t_newWit a_t_newRow a_t_readCode a_t_waits a_t_tested a_t_isTold a_t_ahead a_t_told a_t_pile a_t_common a_t_mostOf a_t_likes a_t_heard a_t_soon a_t_soonAll a_t_imageRow a_t_imageAhead a_t_imageHears v_t_thrown v_t_songs v_t_people v_t_forgetsAt v_t_fillsAt v_t_taped v_t_faultKind v_t_faultPlace v_t_long1 v_t_next0 v_t_sort v_t_place v_t_long0 v_t_value v_t_sign v_t_word v_t_newSongs v_t_newPeople v_t_newForgetsAt v_t_newFillsAt v_t_top v_t_firstValue v_t_lastValue v_t_waiting v_t_depth v_t_acts v_t_isWinter v_t_learntNow v_t_forgottenNow v_t_heardMany v_t_its0 v_t_hasImage v_t_imageActs v_t_imageHeard r_t_songLong r_t_rows) (some (.int rr)) := by
  refine Met.ofW (cc := cX12_unlikeAll) (maxL := 5) (ret := (some .int)) (by decide) rfl ?_
  intro p e s m args below meth c s₁ B hml hv
  obtain ⟨rfl, hP, hk, hD0⟩ := hv
  have X0 : gs_X wsX12_unlikeAll cX12_unlikeAll RX12 5 (some .int) p s m ([.ref a_t, .int x1, .int x2] : List Value).toArray meth c := gs_X.of B hml
  obtain ⟨hx, hb, -, hown, hts, hr, hlk⟩ := id X0
  have hD := hD0
  have hret : ∀ (pc : Nat) (ls : Array Slot), decode cX12_unlikeAll pc = .ok (.ireturn, 1) → W p l e rm_X12_unlikeAll s m ([.ref a_t, .int x1, .int x2] : List Value).toArray below meth c s.heap [] 0 0 (MQ below (gs_QR (some (.int rr))) ([.ref a_t, .int x1, .int x2] : List Value).toArray s 0 0 (fun _ => False)) (F0 m pc ls [.int rr]) := fun pc ls hd => W.iret hx hb hr (fun t ht hW => ⟨rfl, ht⟩) (fun q hq => by cases hq) hd
  have hl := lv_entry ([.ref a_t, .int x1, .int x2]) (n := 5) (Nat.le_of_ble_eq_true rfl)
  rw [lg_entry_eq]
  generalize (lg_sl ([.ref a_t, .int x1, .int x2]) ++ List.replicate (5 - (lg_sl ([.ref a_t, .int x1, .int x2])).length) Slot.unset).toArray = ls at hl ⊢
  have hl : lv_has ls 5 [(0, .ref a_t), (1, .int x1), (2, .int x2)] := hl
  unfold f_X12_unlikeAll at h
  refine lv_iconst (v := 0) hx hb dX12_unlikeAll_0 (by decide) ?_
  refine lv_istore_n (lv' := [(3, .int 0), (0, .ref a_t), (1, .int x1), (2, .int x2)]) hx hb dX12_unlikeAll_1 rfl hl (by decide) rfl (fun ls hl => ?_)
  refine lv_iconst (v := 0) hx hb dX12_unlikeAll_2 (by decide) ?_
  refine lv_istore (lv' := [(4, .int 0), (3, .int 0), (0, .ref a_t), (1, .int x1), (2, .int x2)]) hx hb dX12_unlikeAll_3 hl (by decide) rfl (fun ls hl => ?_)
  exact t_X12_unlikeAll_5 X0 hk hP hD hret  (h := h) _ (lv_sub hl [2, 3, 4, 1, 0] rfl)

set_option maxRecDepth 100000 in
theorem ggX12_nearest_X12_doesHave : GoodIn wsX12_nearest wsX12_doesHave := goodIn_r _ [6, 7, 20, 21, 22, 23, 24, 25, 26, 27, 28, 29, 30, 31, 32, 33, 34, 35, 36, 37, 38, 39, 40, 41, 42, 43, 44, 45, 46, 47, 48, 49, 50, 51, 52, 53, 54, 55, 56, 57, 58, 59, 60, 61, 62, 63, 64, 65, 66, 67, 68, 69, 70, 71, 72, 73, 74, 75, 76, 77, 78, 79, 80] rfl (by decide +kernel)
set_option maxRecDepth 100000 in
theorem gX12_nearest_X12_doesHave : GoodIn wsX12_nearest (wsV RX12 297 RX12 yX12_doesHave wsX12_doesHave) := goodIn_app (goodIn_of _ (by decide +kernel)) ggX12_nearest_X12_doesHave
set_option maxRecDepth 100000 in
theorem ggX12_nearest_X12_unlikeAll : GoodIn wsX12_nearest wsX12_unlikeAll := goodIn_r _ [11, 1, 2, 3, 4, 5, 6, 7, 12, 13, 14, 15, 16, 17, 18, 19, 20, 21, 22, 23, 24, 25, 26, 27, 28, 29, 30, 31, 32, 33, 34, 35, 36, 37, 38, 39, 40, 41, 42, 43, 44, 45, 46, 47, 48, 49, 50, 51, 52, 53, 54, 55, 56, 57, 58, 59, 60, 61, 62, 63, 64, 65, 66, 67, 68, 69, 70, 71, 72, 73, 74, 75, 76, 77, 78, 79, 80] rfl (by decide +kernel)
set_option maxRecDepth 100000 in
theorem gX12_nearest_X12_unlikeAll : GoodIn wsX12_nearest (wsV RX12 371 RX12 yX12_unlikeAll wsX12_unlikeAll) := goodIn_app (goodIn_of _ (by decide +kernel)) ggX12_nearest_X12_unlikeAll
theorem dX12_nearest_0 : decode cX12_nearest 0 = .ok (.iconst (-1), 1) := by decide +kernel
theorem dX12_nearest_1 : decode cX12_nearest 1 = .ok (.istore_n 2, 1) := by decide +kernel
theorem dX12_nearest_2 : decode cX12_nearest 2 = .ok (.iconst 0, 1) := by decide +kernel
theorem dX12_nearest_3 : decode cX12_nearest 3 = .ok (.istore_n 3, 1) := by decide +kernel
theorem dX12_nearest_4 : decode cX12_nearest 4 = .ok (.iload_n 3, 1) := by decide +kernel
theorem dX12_nearest_5 : decode cX12_nearest 5 = .ok (.aload_n 0, 1) := by decide +kernel
theorem dX12_nearest_6 : decode cX12_nearest 6 = .ok (.getfield 276, 3) := by decide +kernel
theorem dX12_nearest_9 : decode cX12_nearest 9 = .ok (.if_icmp .ge 41, 3) := by decide +kernel
theorem dX12_nearest_12 : decode cX12_nearest 12 = .ok (.aload_n 0, 1) := by decide +kernel
theorem dX12_nearest_13 : decode cX12_nearest 13 = .ok (.iconst 0, 1) := by decide +kernel
theorem dX12_nearest_14 : decode cX12_nearest 14 = .ok (.iload_n 3, 1) := by decide +kernel
theorem dX12_nearest_15 : decode cX12_nearest 15 = .ok (.iload_n 1, 1) := by decide +kernel
theorem dX12_nearest_16 : decode cX12_nearest 16 = .ok (.invokevirtual 297, 3) := by decide +kernel
theorem dX12_nearest_19 : decode cX12_nearest 19 = .ok (.ifCond .eq 25, 3) := by decide +kernel
theorem dX12_nearest_22 : decode cX12_nearest 22 = .ok (.iload_n 2, 1) := by decide +kernel
theorem dX12_nearest_23 : decode cX12_nearest 23 = .ok (.iconst (-1), 1) := by decide +kernel
theorem dX12_nearest_24 : decode cX12_nearest 24 = .ok (.if_icmp .eq 18, 3) := by decide +kernel
theorem dX12_nearest_27 : decode cX12_nearest 27 = .ok (.aload_n 0, 1) := by decide +kernel
theorem dX12_nearest_28 : decode cX12_nearest 28 = .ok (.iload_n 3, 1) := by decide +kernel
theorem dX12_nearest_29 : decode cX12_nearest 29 = .ok (.iload_n 1, 1) := by decide +kernel
theorem dX12_nearest_30 : decode cX12_nearest 30 = .ok (.invokevirtual 371, 3) := by decide +kernel
theorem dX12_nearest_33 : decode cX12_nearest 33 = .ok (.aload_n 0, 1) := by decide +kernel
theorem dX12_nearest_34 : decode cX12_nearest 34 = .ok (.iload_n 2, 1) := by decide +kernel
theorem dX12_nearest_35 : decode cX12_nearest 35 = .ok (.iload_n 1, 1) := by decide +kernel
theorem dX12_nearest_36 : decode cX12_nearest 36 = .ok (.invokevirtual 371, 3) := by decide +kernel
theorem dX12_nearest_39 : decode cX12_nearest 39 = .ok (.if_icmp .ge 5, 3) := by decide +kernel
theorem dX12_nearest_42 : decode cX12_nearest 42 = .ok (.iload_n 3, 1) := by decide +kernel
theorem dX12_nearest_43 : decode cX12_nearest 43 = .ok (.istore_n 2, 1) := by decide +kernel
theorem dX12_nearest_44 : decode cX12_nearest 44 = .ok (.iinc 3 1, 3) := by decide +kernel
theorem dX12_nearest_47 : decode cX12_nearest 47 = .ok (.goto (-43), 3) := by decide +kernel
theorem dX12_nearest_50 : decode cX12_nearest 50 = .ok (.iload_n 2, 1) := by decide +kernel
theorem dX12_nearest_51 : decode cX12_nearest 51 = .ok (.ireturn, 1) := by decide +kernel
abbrev w_X12_nearest (E : gs_E) (a_t a_t_songLong a_t_rows a_t_firstNote a_t_wit a_t_code a_t_tape a_t_refused a_t_newSongLong a_t_newFirstNote a_t_newWit a_t_newRow a_t_readCode a_t_waits a_t_tested a_t_isTold a_t_ahead a_t_told a_t_pile a_t_common a_t_mostOf a_t_likes a_t_heard a_t_soon a_t_soonAll a_t_imageRow a_t_imageAhead a_t_imageHears : Nat) (v_t_thrown : Int32) (v_t_songs : Int32) (v_t_people : Int32) (v_t_forgetsAt : Int32) (v_t_fillsAt : Int32) (v_t_taped : Int32) (v_t_faultKind : Int32) (v_t_faultPlace : Int32) (v_t_long1 : Int32) (v_t_next0 : Int32) (v_t_sort : Int32) (v_t_place : Int32) (v_t_long0 : Int32) (v_t_value : Int32) (v_t_sign : Int32) (v_t_word : Int64) (v_t_newSongs : Int32) (v_t_newPeople : Int32) (v_t_newForgetsAt : Int32) (v_t_newFillsAt : Int32) (v_t_top : Int32) (v_t_firstValue : Int32) (v_t_lastValue : Int32) (v_t_waiting : Int32) (v_t_depth : Int32) (v_t_acts : Int32) (v_t_isWinter : Int32) (v_t_learntNow : Int32) (v_t_forgottenNow : Int32) (v_t_heardMany : Int32) (v_t_its0 : Int32) (v_t_hasImage : Int32) (v_t_imageActs : Int32) (v_t_imageHeard : Int32) (r_t_songLong : Nat → Int32) (r_t_rows : Nat → Int32) : va_W := [(a_t, .inr (12, [.int v_t_thrown, .int v_t_songs, .int v_t_people, .int v_t_forgetsAt, .int v_t_fillsAt, .ref a_t_songLong, .ref a_t_firstNote, .ref a_t_wit, .ref a_t_code, .ref a_t_tape, .int v_t_taped, .int v_t_faultKind, .int v_t_faultPlace, .ref a_t_refused, .int v_t_long1, .int v_t_next0, .int v_t_sort, .int v_t_place, .int v_t_long0, .int v_t_value, .int v_t_sign, .long v_t_word, .int v_t_newSongs, .int v_t_newPeople, .int v_t_newForgetsAt, .int v_t_newFillsAt, .int v_t_top, .int v_t_firstValue, .int v_t_lastValue, .int v_t_waiting, .int v_t_depth, .ref a_t_newSongLong, .ref a_t_newFirstNote, .ref a_t_newWit, .ref a_t_newRow, .ref a_t_readCode, .ref a_t_waits, .ref a_t_tested, .ref a_t_isTold, .ref a_t_rows, .ref a_t_ahead, .int v_t_acts, .ref a_t_told, .ref a_t_pile, .int v_t_isWinter, .int v_t_learntNow, .int v_t_forgottenNow, .ref a_t_common, .ref a_t_mostOf, .ref a_t_likes, .int v_t_heardMany, .ref a_t_heard, .ref a_t_soon, .ref a_t_soonAll, .int v_t_its0, .int v_t_hasImage, .int v_t_imageActs, .int v_t_imageHeard, .ref a_t_imageRow, .ref a_t_imageAhead, .ref a_t_imageHears])), (a_t_songLong, .inl (E.2.1, 5, .inl r_t_songLong)), (a_t_rows, .inl (E.2.1, 744, .inl r_t_rows))]
abbrev rm_X12_nearest : Room := { frames := 3, cells := 0, slots := 0, locals := 73 }
def S_X12_nearest_4 (p : Program) (l : Launch) (e : Env) (s : State) (m : MethodId) (args : Array Value) (below : List Frame) (meth : Method) (c : Code) (Q : State → Prop) (a_t a_t_songLong a_t_rows a_t_firstNote a_t_wit a_t_code a_t_tape a_t_refused a_t_newSongLong a_t_newFirstNote a_t_newWit a_t_newRow a_t_readCode a_t_waits a_t_tested a_t_isTold a_t_ahead a_t_told a_t_pile a_t_common a_t_mostOf a_t_likes a_t_heard a_t_soon a_t_soonAll a_t_imageRow a_t_imageAhead a_t_imageHears : Nat) (x1 : Int32) (x2 : Int32) (x3 : Int32) : Prop := ∀ (ls : Array Slot), lv_has ls 4 [(0, .ref a_t), (1, .int x1), (2, .int x2), (3, .int x3)] → W p l e rm_X12_nearest s m args below meth c s.heap [] 0 0 Q (F0 m 4 ls [])
def f_X12_nearest_4 (x1 : Int32) (v_t_people : Int32) (r_t_songLong : Nat → Int32) (r_t_rows : Nat → Int32) (K4 : Int32 → Int32 → Option (Int32)) (x2 : Int32) (x3 : Int32) : Option (Int32) :=
  if v_t_people ≤ x3 then
    some x2
  else
    gs_b1 (f_X12_doesHave 0 x3 x1 r_t_rows) fun r2 =>
    if r2 = 0 then
      K4 x2 (x3 + 1)
    else
      if x2 = (-1) then
        K4 x3 (x3 + 1)
      else
        gs_b1 (f_X12_unlikeAll x3 x1 v_t_people r_t_songLong r_t_rows) fun r5 =>
        gs_b1 (f_X12_unlikeAll x2 x1 v_t_people r_t_songLong r_t_rows) fun r6 =>
        if r6 ≤ r5 then
          K4 x2 (x3 + 1)
        else
          K4 x3 (x3 + 1)
set_option maxHeartbeats 4000000 in
set_option maxRecDepth 100000 in
theorem t_X12_nearest_4_b {p : Program} {l : Launch} {e : Env} {s : State} {m : MethodId} {args : Array Value} {below : List Frame} {meth : Method} {c : Code} {Q : State → Prop} {E : gs_E} {a_t a_t_songLong a_t_rows a_t_firstNote a_t_wit a_t_code a_t_tape a_t_refused a_t_newSongLong a_t_newFirstNote a_t_newWit a_t_newRow a_t_readCode a_t_waits a_t_tested a_t_isTold a_t_ahead a_t_told a_t_pile a_t_common a_t_mostOf a_t_likes a_t_heard a_t_soon a_t_soonAll a_t_imageRow a_t_imageAhead a_t_imageHears : Nat} {v_t_thrown : Int32} {v_t_songs : Int32} {v_t_people : Int32} {v_t_forgetsAt : Int32} {v_t_fillsAt : Int32} {v_t_taped : Int32} {v_t_faultKind : Int32} {v_t_faultPlace : Int32} {v_t_long1 : Int32} {v_t_next0 : Int32} {v_t_sort : Int32} {v_t_place : Int32} {v_t_long0 : Int32} {v_t_value : Int32} {v_t_sign : Int32} {v_t_word : Int64} {v_t_newSongs : Int32} {v_t_newPeople : Int32} {v_t_newForgetsAt : Int32} {v_t_newFillsAt : Int32} {v_t_top : Int32} {v_t_firstValue : Int32} {v_t_lastValue : Int32} {v_t_waiting : Int32} {v_t_depth : Int32} {v_t_acts : Int32} {v_t_isWinter : Int32} {v_t_learntNow : Int32} {v_t_forgottenNow : Int32} {v_t_heardMany : Int32} {v_t_its0 : Int32} {v_t_hasImage : Int32} {v_t_imageActs : Int32} {v_t_imageHeard : Int32} {r_t_songLong : Nat → Int32} {r_t_rows : Nat → Int32} {rr : Int32} (X0 : gs_X wsX12_nearest cX12_nearest RX12 4 (some .int) p s m args meth c) (hk : gs_K E s) (hP : va_P E.1 vwCl (w_X12_nearest E a_t a_t_songLong a_t_rows a_t_firstNote a_t_wit a_t_code a_t_tape a_t_refused a_t_newSongLong a_t_newFirstNote a_t_newWit a_t_newRow a_t_readCode a_t_waits a_t_tested a_t_isTold a_t_ahead a_t_told a_t_pile a_t_common a_t_mostOf a_t_likes a_t_heard a_t_soon a_t_soonAll a_t_imageRow a_t_imageAhead a_t_imageHears v_t_thrown v_t_songs v_t_people v_t_forgetsAt v_t_fillsAt v_t_taped v_t_faultKind v_t_faultPlace v_t_long1 v_t_next0 v_t_sort v_t_place v_t_long0 v_t_value v_t_sign v_t_word v_t_newSongs v_t_newPeople v_t_newForgetsAt v_t_newFillsAt v_t_top v_t_firstValue v_t_lastValue v_t_waiting v_t_depth v_t_acts v_t_isWinter v_t_learntNow v_t_forgottenNow v_t_heardMany v_t_its0 v_t_hasImage v_t_imageActs v_t_imageHeard r_t_songLong r_t_rows) s.heap) (hD : va_D (fun _ => True) (w_X12_nearest E a_t a_t_songLong a_t_rows a_t_firstNote a_t_wit a_t_code a_t_tape a_t_refused a_t_newSongLong a_t_newFirstNote a_t_newWit a_t_newRow a_t_readCode a_t_waits a_t_tested a_t_isTold a_t_ahead a_t_told a_t_pile a_t_common a_t_mostOf a_t_likes a_t_heard a_t_soon a_t_soonAll a_t_imageRow a_t_imageAhead a_t_imageHears v_t_thrown v_t_songs v_t_people v_t_forgetsAt v_t_fillsAt v_t_taped v_t_faultKind v_t_faultPlace v_t_long1 v_t_next0 v_t_sort v_t_place v_t_long0 v_t_value v_t_sign v_t_word v_t_newSongs v_t_newPeople v_t_newForgetsAt v_t_newFillsAt v_t_top v_t_firstValue v_t_lastValue v_t_waiting v_t_depth v_t_acts v_t_isWinter v_t_learntNow v_t_forgottenNow v_t_heardMany v_t_its0 v_t_hasImage v_t_imageActs v_t_imageHeard r_t_songLong r_t_rows)) {x1 : Int32} {x2 : Int32} {x3 : Int32} (hret : ∀ (pc : Nat) (ls : Array Slot), decode cX12_nearest pc = .ok (.ireturn, 1) → W p l e rm_X12_nearest s m args below meth c s.heap [] 0 0 Q (F0 m pc ls [.int rr])) {K4 : Int32 → Int32 → Option (Int32)} (hK4 : ∀ (x2 : Int32) (x3 : Int32), K4 x2 x3 = some rr → S_X12_nearest_4 p l e s m args below meth c Q a_t a_t_songLong a_t_rows a_t_firstNote a_t_wit a_t_code a_t_tape a_t_refused a_t_newSongLong a_t_newFirstNote a_t_newWit a_t_newRow a_t_readCode a_t_waits a_t_tested a_t_isTold a_t_ahead a_t_told a_t_pile a_t_common a_t_mostOf a_t_likes a_t_heard a_t_soon a_t_soonAll a_t_imageRow a_t_imageAhead a_t_imageHears x1 x2 x3) (h : f_X12_nearest_4 x1 v_t_people r_t_songLong r_t_rows K4 x2 x3 = some rr) : S_X12_nearest_4 p l e s m args below meth c Q a_t a_t_songLong a_t_rows a_t_firstNote a_t_wit a_t_code a_t_tape a_t_refused a_t_newSongLong a_t_newFirstNote a_t_newWit a_t_newRow a_t_readCode a_t_waits a_t_tested a_t_isTold a_t_ahead a_t_told a_t_pile a_t_common a_t_mostOf a_t_likes a_t_heard a_t_soon a_t_soonAll a_t_imageRow a_t_imageAhead a_t_imageHears x1 x2 x3 := by
  obtain ⟨hx, hb, hml, hown, hts, hr, hlk⟩ := id X0
  intro ls hl
  unfold f_X12_nearest_4 at h
  refine lv_iload_n hx hb dX12_nearest_4 rfl (lv_at hl 3 rfl) ?_
  refine lv_aload_n hx hb dX12_nearest_5 rfl (lv_at hl 0 rfl) ?_
  refine va_get (D := E.1) (ci := 12) (v := .int v_t_people) (C := RX12) (T := TX12) (N := 61) hx hb hts (fun _ h => (List.mem_cons_of_mem _ (List.mem_append_right _ h))) hown hk.1 hP 0 rfl rfl 2 (by decide) (hts (.fieldLink RX12 276 "GapSongsModel" "people" "I") (List.mem_cons_of_mem _ (List.mem_append_left _ (List.mem_of_getElem? (i := 0) rfl)))) (fun _ h9 => h9) rfl dX12_nearest_6 ?_
  refine lv_icmp_ge (tgt := 50) hx hb dX12_nearest_9 (by decide) (fun c1 => ?_) (fun c1 => ?_)
  · replace h := gs_ift c1 h
    refine lv_iload_n hx hb dX12_nearest_50 rfl (lv_at hl 2 rfl) ?_
    have h := Option.some.inj h
    subst h
    exact hret _ _ dX12_nearest_51
  · replace h := gs_iff c1 h
    refine lv_aload_n hx hb dX12_nearest_12 rfl (lv_at hl 0 rfl) ?_
    refine lv_iconst (v := 0) hx hb dX12_nearest_13 (by decide) ?_
    refine lv_iload_n hx hb dX12_nearest_14 rfl (lv_at hl 3 rfl) ?_
    refine lv_iload_n hx hb dX12_nearest_15 rfl (lv_at hl 1 rfl) ?_
    obtain ⟨r2, hz2, h⟩ := gs_b1_e h
    refine gs_backRi (va_runV (As := [.int 0, .int x3, .int x1]) (rest := []) ⟨hx, hb, hml, hown, hts⟩ (c_X12_doesHave l E a_t a_t_rows a_t_songLong a_t_firstNote a_t_wit a_t_code a_t_tape a_t_refused a_t_newSongLong a_t_newFirstNote a_t_newWit a_t_newRow a_t_readCode a_t_waits a_t_tested a_t_isTold a_t_ahead a_t_told a_t_pile a_t_common a_t_mostOf a_t_likes a_t_heard a_t_soon a_t_soonAll a_t_imageRow a_t_imageAhead a_t_imageHears v_t_thrown v_t_songs v_t_people v_t_forgetsAt v_t_fillsAt v_t_taped v_t_faultKind v_t_faultPlace v_t_long1 v_t_next0 v_t_sort v_t_place v_t_long0 v_t_value v_t_sign v_t_word v_t_newSongs v_t_newPeople v_t_newForgetsAt v_t_newFillsAt v_t_top v_t_firstValue v_t_lastValue v_t_waiting v_t_depth v_t_acts v_t_isWinter v_t_learntNow v_t_forgottenNow v_t_heardMany v_t_its0 v_t_hasImage v_t_imageActs v_t_imageHeard r_t_rows 0 x3 x1 r2 hz2) (cwV 3 hts gX12_nearest_X12_doesHave rfl rfl rfl (by decide +kernel) ⟨Nat.le_of_ble_eq_true rfl, Nat.le_of_ble_eq_true rfl⟩) (gs_preV (ci := 12) hk hP hD (is := [0, 2]) rfl rfl rfl rfl) rfl rfl hl.1 rfl (lv_room (Nat.le_of_ble_eq_true rfl)) dX12_nearest_16 ⟨Nat.zero_le _, Nat.zero_le _⟩) ?_
    refine lv_if_eq (tgt := 44) hx hb dX12_nearest_19 (by decide) (fun c3 => ?_) (fun c3 => ?_)
    · replace h := gs_ift c3 h
      refine lv_iinc (v := x3 + 1) (lv' := [(3, .int (x3 + 1)), (0, .ref a_t), (1, .int x1), (2, .int x2)]) hx hb dX12_nearest_44 hl (k := 3) rfl rfl (by decide) rfl (fun ls hl => ?_)
      refine lv_goto (tgt := 4) hx hb dX12_nearest_47 (by decide) ?_
      exact hK4 x2 (x3 + 1) h _ (lv_sub hl [1, 2, 3, 0] rfl)
    · replace h := gs_iff c3 h
      refine lv_iload_n hx hb dX12_nearest_22 rfl (lv_at hl 2 rfl) ?_
      refine lv_iconst (v := (-1)) hx hb dX12_nearest_23 (by decide) ?_
      refine lv_icmp_eq (tgt := 42) hx hb dX12_nearest_24 (by decide) (fun c4 => ?_) (fun c4 => ?_)
      · replace h := gs_ift c4 h
        refine lv_iload_n hx hb dX12_nearest_42 rfl (lv_at hl 3 rfl) ?_
        refine lv_istore_n (lv' := [(2, .int x3), (0, .ref a_t), (1, .int x1), (3, .int x3)]) hx hb dX12_nearest_43 rfl hl (by decide) rfl (fun ls hl => ?_)
        refine lv_iinc (v := x3 + 1) (lv' := [(3, .int (x3 + 1)), (2, .int x3), (0, .ref a_t), (1, .int x1)]) hx hb dX12_nearest_44 hl (k := 3) rfl rfl (by decide) rfl (fun ls hl => ?_)
        refine lv_goto (tgt := 4) hx hb dX12_nearest_47 (by decide) ?_
        exact hK4 x3 (x3 + 1) h _ (lv_sub hl [2, 3, 1, 0] rfl)
      · replace h := gs_iff c4 h
        refine lv_aload_n hx hb dX12_nearest_27 rfl (lv_at hl 0 rfl) ?_
        refine lv_iload_n hx hb dX12_nearest_28 rfl (lv_at hl 3 rfl) ?_
        refine lv_iload_n hx hb dX12_nearest_29 rfl (lv_at hl 1 rfl) ?_
        obtain ⟨r5, hz5, h⟩ := gs_b1_e h
        refine gs_backRi (va_runV (As := [.int x3, .int x1]) (rest := []) ⟨hx, hb, hml, hown, hts⟩ (c_X12_unlikeAll l E a_t a_t_songLong a_t_rows a_t_firstNote a_t_wit a_t_code a_t_tape a_t_refused a_t_newSongLong a_t_newFirstNote a_t_newWit a_t_newRow a_t_readCode a_t_waits a_t_tested a_t_isTold a_t_ahead a_t_told a_t_pile a_t_common a_t_mostOf a_t_likes a_t_heard a_t_soon a_t_soonAll a_t_imageRow a_t_imageAhead a_t_imageHears v_t_thrown v_t_songs v_t_people v_t_forgetsAt v_t_fillsAt v_t_taped v_t_faultKind v_t_faultPlace v_t_long1 v_t_next0 v_t_sort v_t_place v_t_long0 v_t_value v_t_sign v_t_word v_t_newSongs v_t_newPeople v_t_newForgetsAt v_t_newFillsAt v_t_top v_t_firstValue v_t_lastValue v_t_waiting v_t_depth v_t_acts v_t_isWinter v_t_learntNow v_t_forgottenNow v_t_heardMany v_t_its0 v_t_hasImage v_t_imageActs v_t_imageHeard r_t_songLong r_t_rows x3 x1 r5 hz5) (cwV 2 hts gX12_nearest_X12_unlikeAll rfl rfl rfl (by decide +kernel) ⟨Nat.le_of_ble_eq_true rfl, Nat.le_of_ble_eq_true rfl⟩) (gs_preV (ci := 12) hk hP hD (is := [0, 1, 2]) rfl rfl rfl rfl) rfl rfl hl.1 rfl (lv_room (Nat.le_of_ble_eq_true rfl)) dX12_nearest_30 ⟨Nat.zero_le _, Nat.zero_le _⟩) ?_
        refine lv_aload_n hx hb dX12_nearest_33 rfl (lv_at hl 0 rfl) ?_
        refine lv_iload_n hx hb dX12_nearest_34 rfl (lv_at hl 2 rfl) ?_
        refine lv_iload_n hx hb dX12_nearest_35 rfl (lv_at hl 1 rfl) ?_
        obtain ⟨r6, hz6, h⟩ := gs_b1_e h
        refine gs_backRi (va_runV (As := [.int x2, .int x1]) (rest := [.int r5]) ⟨hx, hb, hml, hown, hts⟩ (c_X12_unlikeAll l E a_t a_t_songLong a_t_rows a_t_firstNote a_t_wit a_t_code a_t_tape a_t_refused a_t_newSongLong a_t_newFirstNote a_t_newWit a_t_newRow a_t_readCode a_t_waits a_t_tested a_t_isTold a_t_ahead a_t_told a_t_pile a_t_common a_t_mostOf a_t_likes a_t_heard a_t_soon a_t_soonAll a_t_imageRow a_t_imageAhead a_t_imageHears v_t_thrown v_t_songs v_t_people v_t_forgetsAt v_t_fillsAt v_t_taped v_t_faultKind v_t_faultPlace v_t_long1 v_t_next0 v_t_sort v_t_place v_t_long0 v_t_value v_t_sign v_t_word v_t_newSongs v_t_newPeople v_t_newForgetsAt v_t_newFillsAt v_t_top v_t_firstValue v_t_lastValue v_t_waiting v_t_depth v_t_acts v_t_isWinter v_t_learntNow v_t_forgottenNow v_t_heardMany v_t_its0 v_t_hasImage v_t_imageActs v_t_imageHeard r_t_songLong r_t_rows x2 x1 r6 hz6) (cwV 2 hts gX12_nearest_X12_unlikeAll rfl rfl rfl (by decide +kernel) ⟨Nat.le_of_ble_eq_true rfl, Nat.le_of_ble_eq_true rfl⟩) (gs_preV (ci := 12) hk hP hD (is := [0, 1, 2]) rfl rfl rfl rfl) rfl rfl hl.1 rfl (lv_room (Nat.le_of_ble_eq_true rfl)) dX12_nearest_36 ⟨Nat.zero_le _, Nat.zero_le _⟩) ?_
        refine lv_icmp_ge (tgt := 44) hx hb dX12_nearest_39 (by decide) (fun c7 => ?_) (fun c7 => ?_)
        · replace h := gs_ift c7 h
          refine lv_iinc (v := x3 + 1) (lv' := [(3, .int (x3 + 1)), (0, .ref a_t), (1, .int x1), (2, .int x2)]) hx hb dX12_nearest_44 hl (k := 3) rfl rfl (by decide) rfl (fun ls hl => ?_)
          refine lv_goto (tgt := 4) hx hb dX12_nearest_47 (by decide) ?_
          exact hK4 x2 (x3 + 1) h _ (lv_sub hl [1, 2, 3, 0] rfl)
        · replace h := gs_iff c7 h
          refine lv_iload_n hx hb dX12_nearest_42 rfl (lv_at hl 3 rfl) ?_
          refine lv_istore_n (lv' := [(2, .int x3), (0, .ref a_t), (1, .int x1), (3, .int x3)]) hx hb dX12_nearest_43 rfl hl (by decide) rfl (fun ls hl => ?_)
          refine lv_iinc (v := x3 + 1) (lv' := [(3, .int (x3 + 1)), (2, .int x3), (0, .ref a_t), (1, .int x1)]) hx hb dX12_nearest_44 hl (k := 3) rfl rfl (by decide) rfl (fun ls hl => ?_)
          refine lv_goto (tgt := 4) hx hb dX12_nearest_47 (by decide) ?_
          exact hK4 x3 (x3 + 1) h _ (lv_sub hl [2, 3, 1, 0] rfl)
set_option maxHeartbeats 4000000 in
set_option maxRecDepth 100000 in
theorem t_X12_nearest_4_n {p : Program} {l : Launch} {e : Env} {s : State} {m : MethodId} {args : Array Value} {below : List Frame} {meth : Method} {c : Code} {Q : State → Prop} {E : gs_E} {a_t a_t_songLong a_t_rows a_t_firstNote a_t_wit a_t_code a_t_tape a_t_refused a_t_newSongLong a_t_newFirstNote a_t_newWit a_t_newRow a_t_readCode a_t_waits a_t_tested a_t_isTold a_t_ahead a_t_told a_t_pile a_t_common a_t_mostOf a_t_likes a_t_heard a_t_soon a_t_soonAll a_t_imageRow a_t_imageAhead a_t_imageHears : Nat} {v_t_thrown : Int32} {v_t_songs : Int32} {v_t_people : Int32} {v_t_forgetsAt : Int32} {v_t_fillsAt : Int32} {v_t_taped : Int32} {v_t_faultKind : Int32} {v_t_faultPlace : Int32} {v_t_long1 : Int32} {v_t_next0 : Int32} {v_t_sort : Int32} {v_t_place : Int32} {v_t_long0 : Int32} {v_t_value : Int32} {v_t_sign : Int32} {v_t_word : Int64} {v_t_newSongs : Int32} {v_t_newPeople : Int32} {v_t_newForgetsAt : Int32} {v_t_newFillsAt : Int32} {v_t_top : Int32} {v_t_firstValue : Int32} {v_t_lastValue : Int32} {v_t_waiting : Int32} {v_t_depth : Int32} {v_t_acts : Int32} {v_t_isWinter : Int32} {v_t_learntNow : Int32} {v_t_forgottenNow : Int32} {v_t_heardMany : Int32} {v_t_its0 : Int32} {v_t_hasImage : Int32} {v_t_imageActs : Int32} {v_t_imageHeard : Int32} {r_t_songLong : Nat → Int32} {r_t_rows : Nat → Int32} {rr : Int32} (X0 : gs_X wsX12_nearest cX12_nearest RX12 4 (some .int) p s m args meth c) (hk : gs_K E s) (hP : va_P E.1 vwCl (w_X12_nearest E a_t a_t_songLong a_t_rows a_t_firstNote a_t_wit a_t_code a_t_tape a_t_refused a_t_newSongLong a_t_newFirstNote a_t_newWit a_t_newRow a_t_readCode a_t_waits a_t_tested a_t_isTold a_t_ahead a_t_told a_t_pile a_t_common a_t_mostOf a_t_likes a_t_heard a_t_soon a_t_soonAll a_t_imageRow a_t_imageAhead a_t_imageHears v_t_thrown v_t_songs v_t_people v_t_forgetsAt v_t_fillsAt v_t_taped v_t_faultKind v_t_faultPlace v_t_long1 v_t_next0 v_t_sort v_t_place v_t_long0 v_t_value v_t_sign v_t_word v_t_newSongs v_t_newPeople v_t_newForgetsAt v_t_newFillsAt v_t_top v_t_firstValue v_t_lastValue v_t_waiting v_t_depth v_t_acts v_t_isWinter v_t_learntNow v_t_forgottenNow v_t_heardMany v_t_its0 v_t_hasImage v_t_imageActs v_t_imageHeard r_t_songLong r_t_rows) s.heap) (hD : va_D (fun _ => True) (w_X12_nearest E a_t a_t_songLong a_t_rows a_t_firstNote a_t_wit a_t_code a_t_tape a_t_refused a_t_newSongLong a_t_newFirstNote a_t_newWit a_t_newRow a_t_readCode a_t_waits a_t_tested a_t_isTold a_t_ahead a_t_told a_t_pile a_t_common a_t_mostOf a_t_likes a_t_heard a_t_soon a_t_soonAll a_t_imageRow a_t_imageAhead a_t_imageHears v_t_thrown v_t_songs v_t_people v_t_forgetsAt v_t_fillsAt v_t_taped v_t_faultKind v_t_faultPlace v_t_long1 v_t_next0 v_t_sort v_t_place v_t_long0 v_t_value v_t_sign v_t_word v_t_newSongs v_t_newPeople v_t_newForgetsAt v_t_newFillsAt v_t_top v_t_firstValue v_t_lastValue v_t_waiting v_t_depth v_t_acts v_t_isWinter v_t_learntNow v_t_forgottenNow v_t_heardMany v_t_its0 v_t_hasImage v_t_imageActs v_t_imageHeard r_t_songLong r_t_rows)) {x1 : Int32} (hret : ∀ (pc : Nat) (ls : Array Slot), decode cX12_nearest pc = .ok (.ireturn, 1) → W p l e rm_X12_nearest s m args below meth c s.heap [] 0 0 Q (F0 m pc ls [.int rr])) : ∀ (n : Nat) (x2 : Int32) (x3 : Int32), gs_it (fun _ _ => none) (f_X12_nearest_4 x1 v_t_people r_t_songLong r_t_rows) n x2 x3 = some rr → S_X12_nearest_4 p l e s m args below meth c Q a_t a_t_songLong a_t_rows a_t_firstNote a_t_wit a_t_code a_t_tape a_t_refused a_t_newSongLong a_t_newFirstNote a_t_newWit a_t_newRow a_t_readCode a_t_waits a_t_tested a_t_isTold a_t_ahead a_t_told a_t_pile a_t_common a_t_mostOf a_t_likes a_t_heard a_t_soon a_t_soonAll a_t_imageRow a_t_imageAhead a_t_imageHears x1 x2 x3 := by
  intro n
  induction n with
  | zero =>
    intro x2 x3 h
    have h : (none : Option (Int32)) = some rr := h
    cases h
  | succ n ih =>
    intro x2 x3 h
    exact t_X12_nearest_4_b X0 hk hP hD hret  (K4 := gs_it (fun _ _ => none) (f_X12_nearest_4 x1 v_t_people r_t_songLong r_t_rows) n) (hK4 := ih) (h := h)
theorem t_X12_nearest_4 {p : Program} {l : Launch} {e : Env} {s : State} {m : MethodId} {args : Array Value} {below : List Frame} {meth : Method} {c : Code} {Q : State → Prop} {E : gs_E} {a_t a_t_songLong a_t_rows a_t_firstNote a_t_wit a_t_code a_t_tape a_t_refused a_t_newSongLong a_t_newFirstNote a_t_newWit a_t_newRow a_t_readCode a_t_waits a_t_tested a_t_isTold a_t_ahead a_t_told a_t_pile a_t_common a_t_mostOf a_t_likes a_t_heard a_t_soon a_t_soonAll a_t_imageRow a_t_imageAhead a_t_imageHears : Nat} {v_t_thrown : Int32} {v_t_songs : Int32} {v_t_people : Int32} {v_t_forgetsAt : Int32} {v_t_fillsAt : Int32} {v_t_taped : Int32} {v_t_faultKind : Int32} {v_t_faultPlace : Int32} {v_t_long1 : Int32} {v_t_next0 : Int32} {v_t_sort : Int32} {v_t_place : Int32} {v_t_long0 : Int32} {v_t_value : Int32} {v_t_sign : Int32} {v_t_word : Int64} {v_t_newSongs : Int32} {v_t_newPeople : Int32} {v_t_newForgetsAt : Int32} {v_t_newFillsAt : Int32} {v_t_top : Int32} {v_t_firstValue : Int32} {v_t_lastValue : Int32} {v_t_waiting : Int32} {v_t_depth : Int32} {v_t_acts : Int32} {v_t_isWinter : Int32} {v_t_learntNow : Int32} {v_t_forgottenNow : Int32} {v_t_heardMany : Int32} {v_t_its0 : Int32} {v_t_hasImage : Int32} {v_t_imageActs : Int32} {v_t_imageHeard : Int32} {r_t_songLong : Nat → Int32} {r_t_rows : Nat → Int32} {rr : Int32} (X0 : gs_X wsX12_nearest cX12_nearest RX12 4 (some .int) p s m args meth c) (hk : gs_K E s) (hP : va_P E.1 vwCl (w_X12_nearest E a_t a_t_songLong a_t_rows a_t_firstNote a_t_wit a_t_code a_t_tape a_t_refused a_t_newSongLong a_t_newFirstNote a_t_newWit a_t_newRow a_t_readCode a_t_waits a_t_tested a_t_isTold a_t_ahead a_t_told a_t_pile a_t_common a_t_mostOf a_t_likes a_t_heard a_t_soon a_t_soonAll a_t_imageRow a_t_imageAhead a_t_imageHears v_t_thrown v_t_songs v_t_people v_t_forgetsAt v_t_fillsAt v_t_taped v_t_faultKind v_t_faultPlace v_t_long1 v_t_next0 v_t_sort v_t_place v_t_long0 v_t_value v_t_sign v_t_word v_t_newSongs v_t_newPeople v_t_newForgetsAt v_t_newFillsAt v_t_top v_t_firstValue v_t_lastValue v_t_waiting v_t_depth v_t_acts v_t_isWinter v_t_learntNow v_t_forgottenNow v_t_heardMany v_t_its0 v_t_hasImage v_t_imageActs v_t_imageHeard r_t_songLong r_t_rows) s.heap) (hD : va_D (fun _ => True) (w_X12_nearest E a_t a_t_songLong a_t_rows a_t_firstNote a_t_wit a_t_code a_t_tape a_t_refused a_t_newSongLong a_t_newFirstNote a_t_newWit a_t_newRow a_t_readCode a_t_waits a_t_tested a_t_isTold a_t_ahead a_t_told a_t_pile a_t_common a_t_mostOf a_t_likes a_t_heard a_t_soon a_t_soonAll a_t_imageRow a_t_imageAhead a_t_imageHears v_t_thrown v_t_songs v_t_people v_t_forgetsAt v_t_fillsAt v_t_taped v_t_faultKind v_t_faultPlace v_t_long1 v_t_next0 v_t_sort v_t_place v_t_long0 v_t_value v_t_sign v_t_word v_t_newSongs v_t_newPeople v_t_newForgetsAt v_t_newFillsAt v_t_top v_t_firstValue v_t_lastValue v_t_waiting v_t_depth v_t_acts v_t_isWinter v_t_learntNow v_t_forgottenNow v_t_heardMany v_t_its0 v_t_hasImage v_t_imageActs v_t_imageHeard r_t_songLong r_t_rows)) {x1 : Int32} {x2 : Int32} {x3 : Int32} (hret : ∀ (pc : Nat) (ls : Array Slot), decode cX12_nearest pc = .ok (.ireturn, 1) → W p l e rm_X12_nearest s m args below meth c s.heap [] 0 0 Q (F0 m pc ls [.int rr])) (h : gs_it (fun _ _ => none) (f_X12_nearest_4 x1 v_t_people r_t_songLong r_t_rows) gs_fuel x2 x3 = some rr) : S_X12_nearest_4 p l e s m args below meth c Q a_t a_t_songLong a_t_rows a_t_firstNote a_t_wit a_t_code a_t_tape a_t_refused a_t_newSongLong a_t_newFirstNote a_t_newWit a_t_newRow a_t_readCode a_t_waits a_t_tested a_t_isTold a_t_ahead a_t_told a_t_pile a_t_common a_t_mostOf a_t_likes a_t_heard a_t_soon a_t_soonAll a_t_imageRow a_t_imageAhead a_t_imageHears x1 x2 x3 :=
  t_X12_nearest_4_n X0 hk hP hD hret  gs_fuel x2 x3 h
def f_X12_nearest (x1 : Int32) (v_t_people : Int32) (r_t_songLong : Nat → Int32) (r_t_rows : Nat → Int32) : Option (Int32) :=
  gs_it (fun _ _ => none) (f_X12_nearest_4 x1 v_t_people r_t_songLong r_t_rows) gs_fuel (-1) 0
set_option maxHeartbeats 4000000 in
set_option maxRecDepth 100000 in
theorem c_X12_nearest (l : Launch) (E : gs_E) (a_t a_t_songLong a_t_rows a_t_firstNote a_t_wit a_t_code a_t_tape a_t_refused a_t_newSongLong a_t_newFirstNote a_t_newWit a_t_newRow a_t_readCode a_t_waits a_t_tested a_t_isTold a_t_ahead a_t_told a_t_pile a_t_common a_t_mostOf a_t_likes a_t_heard a_t_soon a_t_soonAll a_t_imageRow a_t_imageAhead a_t_imageHears : Nat) (v_t_thrown : Int32) (v_t_songs : Int32) (v_t_people : Int32) (v_t_forgetsAt : Int32) (v_t_fillsAt : Int32) (v_t_taped : Int32) (v_t_faultKind : Int32) (v_t_faultPlace : Int32) (v_t_long1 : Int32) (v_t_next0 : Int32) (v_t_sort : Int32) (v_t_place : Int32) (v_t_long0 : Int32) (v_t_value : Int32) (v_t_sign : Int32) (v_t_word : Int64) (v_t_newSongs : Int32) (v_t_newPeople : Int32) (v_t_newForgetsAt : Int32) (v_t_newFillsAt : Int32) (v_t_top : Int32) (v_t_firstValue : Int32) (v_t_lastValue : Int32) (v_t_waiting : Int32) (v_t_depth : Int32) (v_t_acts : Int32) (v_t_isWinter : Int32) (v_t_learntNow : Int32) (v_t_forgottenNow : Int32) (v_t_heardMany : Int32) (v_t_its0 : Int32) (v_t_hasImage : Int32) (v_t_imageActs : Int32) (v_t_imageHeard : Int32) (r_t_songLong : Nat → Int32) (r_t_rows : Nat → Int32) (x1 : Int32) (rr : Int32) (h : f_X12_nearest x1 v_t_people r_t_songLong r_t_rows = some rr) : gs_MR l yX12_nearest wsX12_nearest rm_X12_nearest [.ref a_t, .int x1] E (w_X12_nearest E a_t a_t_songLong a_t_rows a_t_firstNote a_t_wit a_t_code a_t_tape a_t_refused a_t_newSongLong a_t_newFirstNote a_t_newWit a_t_newRow a_t_readCode a_t_waits a_t_tested a_t_isTold a_t_ahead a_t_told a_t_pile a_t_common a_t_mostOf a_t_likes a_t_heard a_t_soon a_t_soonAll a_t_imageRow a_t_imageAhead a_t_imageHears v_t_thrown v_t_songs v_t_people v_t_forgetsAt v_t_fillsAt v_t_taped v_t_faultKind v_t_faultPlace v_t_long1 v_t_next0 v_t_sort v_t_place v_t_long0 v_t_value v_t_sign v_t_word v_t_newSongs v_t_newPeople v_t_newForgetsAt v_t_newFillsAt v_t_top v_t_firstValue v_t_lastValue v_t_waiting v_t_depth v_t_acts v_t_isWinter v_t_learntNow v_t_forgottenNow v_t_heardMany v_t_its0 v_t_hasImage v_t_imageActs v_t_imageHeard r_t_songLong r_t_rows) (some (.int rr)) := by
  refine Met.ofW (cc := cX12_nearest) (maxL := 4) (ret := (some .int)) (by decide) rfl ?_
  intro p e s m args below meth c s₁ B hml hv
  obtain ⟨rfl, hP, hk, hD0⟩ := hv
  have X0 : gs_X wsX12_nearest cX12_nearest RX12 4 (some .int) p s m ([.ref a_t, .int x1] : List Value).toArray meth c := gs_X.of B hml
  obtain ⟨hx, hb, -, hown, hts, hr, hlk⟩ := id X0
  have hD := hD0
  have hret : ∀ (pc : Nat) (ls : Array Slot), decode cX12_nearest pc = .ok (.ireturn, 1) → W p l e rm_X12_nearest s m ([.ref a_t, .int x1] : List Value).toArray below meth c s.heap [] 0 0 (MQ below (gs_QR (some (.int rr))) ([.ref a_t, .int x1] : List Value).toArray s 0 0 (fun _ => False)) (F0 m pc ls [.int rr]) := fun pc ls hd => W.iret hx hb hr (fun t ht hW => ⟨rfl, ht⟩) (fun q hq => by cases hq) hd
  have hl := lv_entry ([.ref a_t, .int x1]) (n := 4) (Nat.le_of_ble_eq_true rfl)
  rw [lg_entry_eq]
  generalize (lg_sl ([.ref a_t, .int x1]) ++ List.replicate (4 - (lg_sl ([.ref a_t, .int x1])).length) Slot.unset).toArray = ls at hl ⊢
  have hl : lv_has ls 4 [(0, .ref a_t), (1, .int x1)] := hl
  unfold f_X12_nearest at h
  refine lv_iconst (v := (-1)) hx hb dX12_nearest_0 (by decide) ?_
  refine lv_istore_n (lv' := [(2, .int (-1)), (0, .ref a_t), (1, .int x1)]) hx hb dX12_nearest_1 rfl hl (by decide) rfl (fun ls hl => ?_)
  refine lv_iconst (v := 0) hx hb dX12_nearest_2 (by decide) ?_
  refine lv_istore_n (lv' := [(3, .int 0), (2, .int (-1)), (0, .ref a_t), (1, .int x1)]) hx hb dX12_nearest_3 rfl hl (by decide) rfl (fun ls hl => ?_)
  exact t_X12_nearest_4 X0 hk hP hD hret  (h := h) _ (lv_sub hl [2, 3, 1, 0] rfl)

set_option maxRecDepth 100000 in
theorem ggX12_song_X12_isSong : GoodIn wsX12_song wsX12_isSong := goodIn_r _ [7, 8, 9, 10, 11, 6, 12, 1, 53, 54, 55, 56, 57, 58, 59, 60, 61, 62, 63, 64, 65, 66, 67, 68, 69, 70, 71, 72, 73, 74, 75, 76, 77, 78, 79, 80, 81, 82, 83, 84, 85, 86, 87, 88, 89, 90, 91, 92, 93, 94, 95, 96, 97, 98, 99, 100, 101, 102, 103, 104, 105, 106, 107, 108, 109, 110, 111, 112, 113] rfl (by decide +kernel)
set_option maxRecDepth 100000 in
theorem gX12_song_X12_isSong : GoodIn wsX12_song (wsV RX12 374 RX12 yX12_isSong wsX12_isSong) := goodIn_app (goodIn_of _ (by decide +kernel)) ggX12_song_X12_isSong
set_option maxRecDepth 100000 in
theorem ggX12_song_X12_isWhat : GoodIn wsX12_song wsX12_isWhat := goodIn_r _ [16, 17, 18, 6, 19, 9, 10, 11, 12, 1, 53, 54, 55, 56, 57, 58, 59, 60, 61, 62, 63, 64, 65, 66, 67, 68, 69, 70, 71, 72, 73, 74, 75, 76, 77, 78, 79, 80, 81, 82, 83, 84, 85, 86, 87, 88, 89, 90, 91, 92, 93, 94, 95, 96, 97, 98, 99, 100, 101, 102, 103, 104, 105, 106, 107, 108, 109, 110, 111, 112, 113] rfl (by decide +kernel)
set_option maxRecDepth 100000 in
theorem gX12_song_X12_isWhat : GoodIn wsX12_song (wsV RX12 377 RX12 yX12_isWhat wsX12_isWhat) := goodIn_app (goodIn_of _ (by decide +kernel)) ggX12_song_X12_isWhat
set_option maxRecDepth 100000 in
theorem ggX12_song_X12_nearest : GoodIn wsX12_song wsX12_nearest := goodIn_r _ [23, 24, 25, 26, 27, 6, 28, 29, 30, 31, 32, 33, 34, 35, 36, 37, 2, 38, 39, 40, 53, 54, 55, 56, 57, 58, 59, 60, 61, 62, 63, 64, 65, 66, 67, 68, 69, 70, 71, 72, 73, 74, 75, 76, 77, 78, 79, 80, 81, 82, 83, 84, 85, 86, 87, 88, 89, 90, 91, 92, 93, 94, 95, 96, 97, 98, 99, 100, 101, 102, 103, 104, 105, 106, 107, 108, 109, 110, 111, 112, 113] rfl (by decide +kernel)
set_option maxRecDepth 100000 in
theorem gX12_song_X12_nearest : GoodIn wsX12_song (wsV RX12 381 RX12 yX12_nearest wsX12_nearest) := goodIn_app (goodIn_of _ (by decide +kernel)) ggX12_song_X12_nearest
set_option maxRecDepth 100000 in
theorem ggX12_song_X12_whoHave : GoodIn wsX12_song wsX12_whoHave := goodIn_r _ [44, 24, 25, 26, 27, 6, 28, 29, 53, 54, 55, 56, 57, 58, 59, 60, 61, 62, 63, 64, 65, 66, 67, 68, 69, 70, 71, 72, 73, 74, 75, 76, 77, 78, 79, 80, 81, 82, 83, 84, 85, 86, 87, 88, 89, 90, 91, 92, 93, 94, 95, 96, 97, 98, 99, 100, 101, 102, 103, 104, 105, 106, 107, 108, 109, 110, 111, 112, 113] rfl (by decide +kernel)
set_option maxRecDepth 100000 in
theorem gX12_song_X12_whoHave : GoodIn wsX12_song (wsV RX12 310 RX12 yX12_whoHave wsX12_whoHave) := goodIn_app (goodIn_of _ (by decide +kernel)) ggX12_song_X12_whoHave
set_option maxRecDepth 100000 in
theorem ggX12_song_X12_wholeOnes : GoodIn wsX12_song wsX12_wholeOnes := goodIn_r _ [48, 24, 25, 26, 27, 6, 28, 29, 49, 50, 51, 52, 2, 38, 39, 40, 53, 54, 55, 56, 57, 58, 59, 60, 61, 62, 63, 64, 65, 66, 67, 68, 69, 70, 71, 72, 73, 74, 75, 76, 77, 78, 79, 80, 81, 82, 83, 84, 85, 86, 87, 88, 89, 90, 91, 92, 93, 94, 95, 96, 97, 98, 99, 100, 101, 102, 103, 104, 105, 106, 107, 108, 109, 110, 111, 112, 113] rfl (by decide +kernel)
set_option maxRecDepth 100000 in
theorem gX12_song_X12_wholeOnes : GoodIn wsX12_song (wsV RX12 384 RX12 yX12_wholeOnes wsX12_wholeOnes) := goodIn_app (goodIn_of _ (by decide +kernel)) ggX12_song_X12_wholeOnes
set_option maxRecDepth 100000 in
theorem ggX12_song_X12_unlikeAll : GoodIn wsX12_song wsX12_unlikeAll := goodIn_r _ [33, 24, 25, 26, 27, 6, 28, 29, 34, 35, 36, 37, 2, 38, 39, 40, 53, 54, 55, 56, 57, 58, 59, 60, 61, 62, 63, 64, 65, 66, 67, 68, 69, 70, 71, 72, 73, 74, 75, 76, 77, 78, 79, 80, 81, 82, 83, 84, 85, 86, 87, 88, 89, 90, 91, 92, 93, 94, 95, 96, 97, 98, 99, 100, 101, 102, 103, 104, 105, 106, 107, 108, 109, 110, 111, 112, 113] rfl (by decide +kernel)
set_option maxRecDepth 100000 in
theorem gX12_song_X12_unlikeAll : GoodIn wsX12_song (wsV RX12 371 RX12 yX12_unlikeAll wsX12_unlikeAll) := goodIn_app (goodIn_of _ (by decide +kernel)) ggX12_song_X12_unlikeAll
theorem dX12_song_0 : decode cX12_song 0 = .ok (.aload_n 0, 1) := by decide +kernel
theorem dX12_song_1 : decode cX12_song 1 = .ok (.iconst 0, 1) := by decide +kernel
theorem dX12_song_2 : decode cX12_song 2 = .ok (.putfield 102, 3) := by decide +kernel
theorem dX12_song_5 : decode cX12_song 5 = .ok (.aload_n 0, 1) := by decide +kernel
theorem dX12_song_6 : decode cX12_song 6 = .ok (.iload_n 1, 1) := by decide +kernel
theorem dX12_song_7 : decode cX12_song 7 = .ok (.invokevirtual 374, 3) := by decide +kernel
theorem dX12_song_10 : decode cX12_song 10 = .ok (.ifCond .eq 12, 3) := by decide +kernel
theorem dX12_song_13 : decode cX12_song 13 = .ok (.aload_n 0, 1) := by decide +kernel
theorem dX12_song_14 : decode cX12_song 14 = .ok (.iload_n 2, 1) := by decide +kernel
theorem dX12_song_15 : decode cX12_song 15 = .ok (.iconst 4, 1) := by decide +kernel
theorem dX12_song_16 : decode cX12_song 16 = .ok (.invokevirtual 377, 3) := by decide +kernel
theorem dX12_song_19 : decode cX12_song 19 = .ok (.ifCond .ne 5, 3) := by decide +kernel
theorem dX12_song_22 : decode cX12_song 22 = .ok (.iconst 0, 1) := by decide +kernel
theorem dX12_song_23 : decode cX12_song 23 = .ok (.ireturn, 1) := by decide +kernel
theorem dX12_song_24 : decode cX12_song 24 = .ok (.aload_n 0, 1) := by decide +kernel
theorem dX12_song_25 : decode cX12_song 25 = .ok (.iload_n 1, 1) := by decide +kernel
theorem dX12_song_26 : decode cX12_song 26 = .ok (.invokevirtual 381, 3) := by decide +kernel
theorem dX12_song_29 : decode cX12_song 29 = .ok (.istore_n 3, 1) := by decide +kernel
theorem dX12_song_30 : decode cX12_song 30 = .ok (.iload_n 2, 1) := by decide +kernel
theorem dX12_song_31 : decode cX12_song 31 = .ok (.ifCond .ne 12, 3) := by decide +kernel
theorem dX12_song_34 : decode cX12_song 34 = .ok (.aload_n 0, 1) := by decide +kernel
theorem dX12_song_35 : decode cX12_song 35 = .ok (.getfield 16, 3) := by decide +kernel
theorem dX12_song_38 : decode cX12_song 38 = .ok (.iload_n 1, 1) := by decide +kernel
theorem dX12_song_39 : decode cX12_song 39 = .ok (.iaload, 1) := by decide +kernel
theorem dX12_song_40 : decode cX12_song 40 = .ok (.goto 51, 3) := by decide +kernel
theorem dX12_song_43 : decode cX12_song 43 = .ok (.iload_n 2, 1) := by decide +kernel
theorem dX12_song_44 : decode cX12_song 44 = .ok (.iconst 1, 1) := by decide +kernel
theorem dX12_song_45 : decode cX12_song 45 = .ok (.if_icmp .ne 12, 3) := by decide +kernel
theorem dX12_song_48 : decode cX12_song 48 = .ok (.aload_n 0, 1) := by decide +kernel
theorem dX12_song_49 : decode cX12_song 49 = .ok (.iconst 0, 1) := by decide +kernel
theorem dX12_song_50 : decode cX12_song 50 = .ok (.iload_n 1, 1) := by decide +kernel
theorem dX12_song_51 : decode cX12_song 51 = .ok (.invokevirtual 310, 3) := by decide +kernel
theorem dX12_song_54 : decode cX12_song 54 = .ok (.goto 37, 3) := by decide +kernel
theorem dX12_song_57 : decode cX12_song 57 = .ok (.iload_n 2, 1) := by decide +kernel
theorem dX12_song_58 : decode cX12_song 58 = .ok (.iconst 2, 1) := by decide +kernel
theorem dX12_song_59 : decode cX12_song 59 = .ok (.if_icmp .ne 12, 3) := by decide +kernel
theorem dX12_song_62 : decode cX12_song 62 = .ok (.aload_n 0, 1) := by decide +kernel
theorem dX12_song_63 : decode cX12_song 63 = .ok (.iconst 0, 1) := by decide +kernel
theorem dX12_song_64 : decode cX12_song 64 = .ok (.iload_n 1, 1) := by decide +kernel
theorem dX12_song_65 : decode cX12_song 65 = .ok (.invokevirtual 384, 3) := by decide +kernel
theorem dX12_song_68 : decode cX12_song 68 = .ok (.goto 23, 3) := by decide +kernel
theorem dX12_song_71 : decode cX12_song 71 = .ok (.iload_n 2, 1) := by decide +kernel
theorem dX12_song_72 : decode cX12_song 72 = .ok (.iconst 3, 1) := by decide +kernel
theorem dX12_song_73 : decode cX12_song 73 = .ok (.if_icmp .eq 8, 3) := by decide +kernel
theorem dX12_song_76 : decode cX12_song 76 = .ok (.iload_n 3, 1) := by decide +kernel
theorem dX12_song_77 : decode cX12_song 77 = .ok (.iconst (-1), 1) := by decide +kernel
theorem dX12_song_78 : decode cX12_song 78 = .ok (.if_icmp .ne 7, 3) := by decide +kernel
theorem dX12_song_81 : decode cX12_song 81 = .ok (.iload_n 3, 1) := by decide +kernel
theorem dX12_song_82 : decode cX12_song 82 = .ok (.goto 9, 3) := by decide +kernel
theorem dX12_song_85 : decode cX12_song 85 = .ok (.aload_n 0, 1) := by decide +kernel
theorem dX12_song_86 : decode cX12_song 86 = .ok (.iload_n 3, 1) := by decide +kernel
theorem dX12_song_87 : decode cX12_song 87 = .ok (.iload_n 1, 1) := by decide +kernel
theorem dX12_song_88 : decode cX12_song 88 = .ok (.invokevirtual 371, 3) := by decide +kernel
theorem dX12_song_91 : decode cX12_song 91 = .ok (.ireturn, 1) := by decide +kernel
abbrev w_X12_song (E : gs_E) (a_t a_t_songLong a_t_rows a_t_firstNote a_t_wit a_t_code a_t_tape a_t_refused a_t_newSongLong a_t_newFirstNote a_t_newWit a_t_newRow a_t_readCode a_t_waits a_t_tested a_t_isTold a_t_ahead a_t_told a_t_pile a_t_common a_t_mostOf a_t_likes a_t_heard a_t_soon a_t_soonAll a_t_imageRow a_t_imageAhead a_t_imageHears : Nat) (v_t_thrown : Int32) (v_t_songs : Int32) (v_t_people : Int32) (v_t_forgetsAt : Int32) (v_t_fillsAt : Int32) (v_t_taped : Int32) (v_t_faultKind : Int32) (v_t_faultPlace : Int32) (v_t_long1 : Int32) (v_t_next0 : Int32) (v_t_sort : Int32) (v_t_place : Int32) (v_t_long0 : Int32) (v_t_value : Int32) (v_t_sign : Int32) (v_t_word : Int64) (v_t_newSongs : Int32) (v_t_newPeople : Int32) (v_t_newForgetsAt : Int32) (v_t_newFillsAt : Int32) (v_t_top : Int32) (v_t_firstValue : Int32) (v_t_lastValue : Int32) (v_t_waiting : Int32) (v_t_depth : Int32) (v_t_acts : Int32) (v_t_isWinter : Int32) (v_t_learntNow : Int32) (v_t_forgottenNow : Int32) (v_t_heardMany : Int32) (v_t_its0 : Int32) (v_t_hasImage : Int32) (v_t_imageActs : Int32) (v_t_imageHeard : Int32) (r_t_songLong : Nat → Int32) (r_t_rows : Nat → Int32) : va_W := [(a_t, .inr (12, [.int v_t_thrown, .int v_t_songs, .int v_t_people, .int v_t_forgetsAt, .int v_t_fillsAt, .ref a_t_songLong, .ref a_t_firstNote, .ref a_t_wit, .ref a_t_code, .ref a_t_tape, .int v_t_taped, .int v_t_faultKind, .int v_t_faultPlace, .ref a_t_refused, .int v_t_long1, .int v_t_next0, .int v_t_sort, .int v_t_place, .int v_t_long0, .int v_t_value, .int v_t_sign, .long v_t_word, .int v_t_newSongs, .int v_t_newPeople, .int v_t_newForgetsAt, .int v_t_newFillsAt, .int v_t_top, .int v_t_firstValue, .int v_t_lastValue, .int v_t_waiting, .int v_t_depth, .ref a_t_newSongLong, .ref a_t_newFirstNote, .ref a_t_newWit, .ref a_t_newRow, .ref a_t_readCode, .ref a_t_waits, .ref a_t_tested, .ref a_t_isTold, .ref a_t_rows, .ref a_t_ahead, .int v_t_acts, .ref a_t_told, .ref a_t_pile, .int v_t_isWinter, .int v_t_learntNow, .int v_t_forgottenNow, .ref a_t_common, .ref a_t_mostOf, .ref a_t_likes, .int v_t_heardMany, .ref a_t_heard, .ref a_t_soon, .ref a_t_soonAll, .int v_t_its0, .int v_t_hasImage, .int v_t_imageActs, .int v_t_imageHeard, .ref a_t_imageRow, .ref a_t_imageAhead, .ref a_t_imageHears])), (a_t_songLong, .inl (E.2.1, 5, .inl r_t_songLong)), (a_t_rows, .inl (E.2.1, 744, .inl r_t_rows))]
abbrev rm_X12_song : Room := { frames := 4, cells := 0, slots := 0, locals := 96 }
def f_X12_song (x1 : Int32) (x2 : Int32) (v_t_thrown : Int32) (v_t_songs : Int32) (v_t_people : Int32) (r_t_songLong : Nat → Int32) (r_t_rows : Nat → Int32) : Option (Int32 × Int32) :=
  gs_b2 (f_X12_isSong x1 0 v_t_songs) fun r1 o1_0 =>
  if r1 = 0 then
    some (0, o1_0)
  else
    gs_b2 (f_X12_isWhat x2 4 o1_0) fun r3 o3_0 =>
    if r3 = 0 then
      some (0, o3_0)
    else
      gs_b1 (f_X12_nearest x1 v_t_people r_t_songLong r_t_rows) fun r5 =>
      if x2 = 0 then
        gs_gd (gs_in x1 5) <|
        some (r_t_songLong x1.toNatClampNeg, o3_0)
      else
        if x2 = 1 then
          gs_b1 (f_X12_whoHave 0 x1 v_t_people r_t_rows) fun r13 =>
          some (r13, o3_0)
        else
          if x2 = 2 then
            gs_b1 (f_X12_wholeOnes 0 x1 v_t_people r_t_songLong r_t_rows) fun r12 =>
            some (r12, o3_0)
          else
            if x2 = 3 then
              some (r5, o3_0)
            else
              if r5 = (-1) then
                some (r5, o3_0)
              else
                gs_b1 (f_X12_unlikeAll r5 x1 v_t_people r_t_songLong r_t_rows) fun r11 =>
                some (r11, o3_0)
set_option maxHeartbeats 4000000 in
set_option maxRecDepth 100000 in
theorem c_X12_song (l : Launch) (E : gs_E) (a_t a_t_songLong a_t_rows a_t_firstNote a_t_wit a_t_code a_t_tape a_t_refused a_t_newSongLong a_t_newFirstNote a_t_newWit a_t_newRow a_t_readCode a_t_waits a_t_tested a_t_isTold a_t_ahead a_t_told a_t_pile a_t_common a_t_mostOf a_t_likes a_t_heard a_t_soon a_t_soonAll a_t_imageRow a_t_imageAhead a_t_imageHears : Nat) (v_t_thrown : Int32) (v_t_songs : Int32) (v_t_people : Int32) (v_t_forgetsAt : Int32) (v_t_fillsAt : Int32) (v_t_taped : Int32) (v_t_faultKind : Int32) (v_t_faultPlace : Int32) (v_t_long1 : Int32) (v_t_next0 : Int32) (v_t_sort : Int32) (v_t_place : Int32) (v_t_long0 : Int32) (v_t_value : Int32) (v_t_sign : Int32) (v_t_word : Int64) (v_t_newSongs : Int32) (v_t_newPeople : Int32) (v_t_newForgetsAt : Int32) (v_t_newFillsAt : Int32) (v_t_top : Int32) (v_t_firstValue : Int32) (v_t_lastValue : Int32) (v_t_waiting : Int32) (v_t_depth : Int32) (v_t_acts : Int32) (v_t_isWinter : Int32) (v_t_learntNow : Int32) (v_t_forgottenNow : Int32) (v_t_heardMany : Int32) (v_t_its0 : Int32) (v_t_hasImage : Int32) (v_t_imageActs : Int32) (v_t_imageHeard : Int32) (r_t_songLong : Nat → Int32) (r_t_rows : Nat → Int32) (x1 : Int32) (x2 : Int32) (rr : Int32) (o_t_thrown : Int32) (h : f_X12_song x1 x2 v_t_thrown v_t_songs v_t_people r_t_songLong r_t_rows = some (rr, o_t_thrown)) : gs_MW l yX12_song wsX12_song rm_X12_song [.ref a_t, .int x1, .int x2] E (w_X12_song E a_t a_t_songLong a_t_rows a_t_firstNote a_t_wit a_t_code a_t_tape a_t_refused a_t_newSongLong a_t_newFirstNote a_t_newWit a_t_newRow a_t_readCode a_t_waits a_t_tested a_t_isTold a_t_ahead a_t_told a_t_pile a_t_common a_t_mostOf a_t_likes a_t_heard a_t_soon a_t_soonAll a_t_imageRow a_t_imageAhead a_t_imageHears v_t_thrown v_t_songs v_t_people v_t_forgetsAt v_t_fillsAt v_t_taped v_t_faultKind v_t_faultPlace v_t_long1 v_t_next0 v_t_sort v_t_place v_t_long0 v_t_value v_t_sign v_t_word v_t_newSongs v_t_newPeople v_t_newForgetsAt v_t_newFillsAt v_t_top v_t_firstValue v_t_lastValue v_t_waiting v_t_depth v_t_acts v_t_isWinter v_t_learntNow v_t_forgottenNow v_t_heardMany v_t_its0 v_t_hasImage v_t_imageActs v_t_imageHeard r_t_songLong r_t_rows) (w_X12_song E a_t a_t_songLong a_t_rows a_t_firstNote a_t_wit a_t_code a_t_tape a_t_refused a_t_newSongLong a_t_newFirstNote a_t_newWit a_t_newRow a_t_readCode a_t_waits a_t_tested a_t_isTold a_t_ahead a_t_told a_t_pile a_t_common a_t_mostOf a_t_likes a_t_heard a_t_soon a_t_soonAll a_t_imageRow a_t_imageAhead a_t_imageHears o_t_thrown v_t_songs v_t_people v_t_forgetsAt v_t_fillsAt v_t_taped v_t_faultKind v_t_faultPlace v_t_long1 v_t_next0 v_t_sort v_t_place v_t_long0 v_t_value v_t_sign v_t_word v_t_newSongs v_t_newPeople v_t_newForgetsAt v_t_newFillsAt v_t_top v_t_firstValue v_t_lastValue v_t_waiting v_t_depth v_t_acts v_t_isWinter v_t_learntNow v_t_forgottenNow v_t_heardMany v_t_its0 v_t_hasImage v_t_imageActs v_t_imageHeard r_t_songLong r_t_rows) (some (.int rr)) := by
  refine Met.ofW (cc := cX12_song) (maxL := 4) (ret := (some .int)) (by decide) rfl ?_
  intro p e s m args below meth c s₁ B hml hv
  obtain ⟨rfl, hP, hk, hD0⟩ := hv
  have X0 : gs_X wsX12_song cX12_song RX12 4 (some .int) p s m ([.ref a_t, .int x1, .int x2] : List Value).toArray meth c := gs_X.of B hml
  obtain ⟨hx, hb, -, hown, hts, hr, hlk⟩ := id X0
  have hD := (gs_D_self hD0)
  generalize hAe : gs_w (w_X12_song E a_t a_t_songLong a_t_rows a_t_firstNote a_t_wit a_t_code a_t_tape a_t_refused a_t_newSongLong a_t_newFirstNote a_t_newWit a_t_newRow a_t_readCode a_t_waits a_t_tested a_t_isTold a_t_ahead a_t_told a_t_pile a_t_common a_t_mostOf a_t_likes a_t_heard a_t_soon a_t_soonAll a_t_imageRow a_t_imageAhead a_t_imageHears v_t_thrown v_t_songs v_t_people v_t_forgetsAt v_t_fillsAt v_t_taped v_t_faultKind v_t_faultPlace v_t_long1 v_t_next0 v_t_sort v_t_place v_t_long0 v_t_value v_t_sign v_t_word v_t_newSongs v_t_newPeople v_t_newForgetsAt v_t_newFillsAt v_t_top v_t_firstValue v_t_lastValue v_t_waiting v_t_depth v_t_acts v_t_isWinter v_t_learntNow v_t_forgottenNow v_t_heardMany v_t_its0 v_t_hasImage v_t_imageActs v_t_imageHeard r_t_songLong r_t_rows) = A at hD ⊢
  have hS : va_S A s.heap s.heap [] := va_S.rf
  have hret : ∀ (H : Heap) (locs : List Loc) (pc : Nat) (ls : Array Slot), va_P E.1 vwCl (w_X12_song E a_t a_t_songLong a_t_rows a_t_firstNote a_t_wit a_t_code a_t_tape a_t_refused a_t_newSongLong a_t_newFirstNote a_t_newWit a_t_newRow a_t_readCode a_t_waits a_t_tested a_t_isTold a_t_ahead a_t_told a_t_pile a_t_common a_t_mostOf a_t_likes a_t_heard a_t_soon a_t_soonAll a_t_imageRow a_t_imageAhead a_t_imageHears o_t_thrown v_t_songs v_t_people v_t_forgetsAt v_t_fillsAt v_t_taped v_t_faultKind v_t_faultPlace v_t_long1 v_t_next0 v_t_sort v_t_place v_t_long0 v_t_value v_t_sign v_t_word v_t_newSongs v_t_newPeople v_t_newForgetsAt v_t_newFillsAt v_t_top v_t_firstValue v_t_lastValue v_t_waiting v_t_depth v_t_acts v_t_isWinter v_t_learntNow v_t_forgottenNow v_t_heardMany v_t_its0 v_t_hasImage v_t_imageActs v_t_imageHeard r_t_songLong r_t_rows) H → va_S A s.heap H locs → decode cX12_song pc = .ok (.ireturn, 1) → W p l e rm_X12_song s m ([.ref a_t, .int x1, .int x2] : List Value).toArray below meth c H locs 0 0 (MQ below (gs_QWA E A (w_X12_song E a_t a_t_songLong a_t_rows a_t_firstNote a_t_wit a_t_code a_t_tape a_t_refused a_t_newSongLong a_t_newFirstNote a_t_newWit a_t_newRow a_t_readCode a_t_waits a_t_tested a_t_isTold a_t_ahead a_t_told a_t_pile a_t_common a_t_mostOf a_t_likes a_t_heard a_t_soon a_t_soonAll a_t_imageRow a_t_imageAhead a_t_imageHears o_t_thrown v_t_songs v_t_people v_t_forgetsAt v_t_fillsAt v_t_taped v_t_faultKind v_t_faultPlace v_t_long1 v_t_next0 v_t_sort v_t_place v_t_long0 v_t_value v_t_sign v_t_word v_t_newSongs v_t_newPeople v_t_newForgetsAt v_t_newFillsAt v_t_top v_t_firstValue v_t_lastValue v_t_waiting v_t_depth v_t_acts v_t_isWinter v_t_learntNow v_t_forgottenNow v_t_heardMany v_t_its0 v_t_hasImage v_t_imageActs v_t_imageHeard r_t_songLong r_t_rows) (some (.int rr))) ([.ref a_t, .int x1, .int x2] : List Value).toArray s 0 0 A) (F0 m pc ls [.int rr]) := fun H locs pc ls hP hS hd => W.iret hx hb hr (fun t ht hW => ⟨rfl, by rw [ht]; exact hP, hS.F ht⟩) hS.2.2 hd
  have hl := lv_entry ([.ref a_t, .int x1, .int x2]) (n := 4) (Nat.le_of_ble_eq_true rfl)
  rw [lg_entry_eq]
  generalize (lg_sl ([.ref a_t, .int x1, .int x2]) ++ List.replicate (4 - (lg_sl ([.ref a_t, .int x1, .int x2])).length) Slot.unset).toArray = ls at hl ⊢
  have hl : lv_has ls 4 [(0, .ref a_t), (1, .int x1), (2, .int x2)] := hl
  unfold f_X12_song at h
  refine lv_aload_n hx hb dX12_song_0 rfl (lv_at hl 0 rfl) ?_
  refine lv_iconst (v := 0) hx hb dX12_song_1 (by decide) ?_
  refine va_put (D := E.1) (ci := 12) (v := .int 0) (ty := .int) (C := RX12) (T := TX12) (N := 61) hx hb hts (fun _ h => (List.mem_cons_of_mem _ (List.mem_append_right _ h))) tyX12 tyX12_ok nmX12 hown hk.1 hP hD hS 0 rfl rfl 0 (by decide) (hts (.fieldLink RX12 102 "GapSongsModel" "thrown" "I") (List.mem_cons_of_mem _ (List.mem_append_left _ (List.mem_append_left _ (List.mem_of_getElem? (i := 0) rfl))))) (fun _ h9 => h9) rfl (by decide +kernel) rfl rfl (Nat.le_of_ble_eq_true rfl) dX12_song_2 (fun H locs hP hD hS => ?_)
  have hP : va_P E.1 vwCl (w_X12_song E a_t a_t_songLong a_t_rows a_t_firstNote a_t_wit a_t_code a_t_tape a_t_refused a_t_newSongLong a_t_newFirstNote a_t_newWit a_t_newRow a_t_readCode a_t_waits a_t_tested a_t_isTold a_t_ahead a_t_told a_t_pile a_t_common a_t_mostOf a_t_likes a_t_heard a_t_soon a_t_soonAll a_t_imageRow a_t_imageAhead a_t_imageHears 0 v_t_songs v_t_people v_t_forgetsAt v_t_fillsAt v_t_taped v_t_faultKind v_t_faultPlace v_t_long1 v_t_next0 v_t_sort v_t_place v_t_long0 v_t_value v_t_sign v_t_word v_t_newSongs v_t_newPeople v_t_newForgetsAt v_t_newFillsAt v_t_top v_t_firstValue v_t_lastValue v_t_waiting v_t_depth v_t_acts v_t_isWinter v_t_learntNow v_t_forgottenNow v_t_heardMany v_t_its0 v_t_hasImage v_t_imageActs v_t_imageHeard r_t_songLong r_t_rows) H := hP
  have hD : va_D A (w_X12_song E a_t a_t_songLong a_t_rows a_t_firstNote a_t_wit a_t_code a_t_tape a_t_refused a_t_newSongLong a_t_newFirstNote a_t_newWit a_t_newRow a_t_readCode a_t_waits a_t_tested a_t_isTold a_t_ahead a_t_told a_t_pile a_t_common a_t_mostOf a_t_likes a_t_heard a_t_soon a_t_soonAll a_t_imageRow a_t_imageAhead a_t_imageHears 0 v_t_songs v_t_people v_t_forgetsAt v_t_fillsAt v_t_taped v_t_faultKind v_t_faultPlace v_t_long1 v_t_next0 v_t_sort v_t_place v_t_long0 v_t_value v_t_sign v_t_word v_t_newSongs v_t_newPeople v_t_newForgetsAt v_t_newFillsAt v_t_top v_t_firstValue v_t_lastValue v_t_waiting v_t_depth v_t_acts v_t_isWinter v_t_learntNow v_t_forgottenNow v_t_heardMany v_t_its0 v_t_hasImage v_t_imageActs v_t_imageHeard r_t_songLong r_t_rows) := hD
  refine lv_aload_n hx hb dX12_song_5 rfl (lv_at hl 0 rfl) ?_
  refine lv_iload_n hx hb dX12_song_6 rfl (lv_at hl 1 rfl) ?_
  obtain ⟨r1, o1_0, hz1, h⟩ := gs_b2_e h
  refine gs_backWi (ws1 := (w_X12_song E a_t a_t_songLong a_t_rows a_t_firstNote a_t_wit a_t_code a_t_tape a_t_refused a_t_newSongLong a_t_newFirstNote a_t_newWit a_t_newRow a_t_readCode a_t_waits a_t_tested a_t_isTold a_t_ahead a_t_told a_t_pile a_t_common a_t_mostOf a_t_likes a_t_heard a_t_soon a_t_soonAll a_t_imageRow a_t_imageAhead a_t_imageHears o1_0 v_t_songs v_t_people v_t_forgetsAt v_t_fillsAt v_t_taped v_t_faultKind v_t_faultPlace v_t_long1 v_t_next0 v_t_sort v_t_place v_t_long0 v_t_value v_t_sign v_t_word v_t_newSongs v_t_newPeople v_t_newForgetsAt v_t_newFillsAt v_t_top v_t_firstValue v_t_lastValue v_t_waiting v_t_depth v_t_acts v_t_isWinter v_t_learntNow v_t_forgottenNow v_t_heardMany v_t_its0 v_t_hasImage v_t_imageActs v_t_imageHeard r_t_songLong r_t_rows)) (va_runV (As := [.int x1]) (rest := []) ⟨hx, hb, hml, hown, hts⟩ (c_X12_isSong l E a_t a_t_songLong a_t_firstNote a_t_wit a_t_code a_t_tape a_t_refused a_t_newSongLong a_t_newFirstNote a_t_newWit a_t_newRow a_t_readCode a_t_waits a_t_tested a_t_isTold a_t_rows a_t_ahead a_t_told a_t_pile a_t_common a_t_mostOf a_t_likes a_t_heard a_t_soon a_t_soonAll a_t_imageRow a_t_imageAhead a_t_imageHears 0 v_t_songs v_t_people v_t_forgetsAt v_t_fillsAt v_t_taped v_t_faultKind v_t_faultPlace v_t_long1 v_t_next0 v_t_sort v_t_place v_t_long0 v_t_value v_t_sign v_t_word v_t_newSongs v_t_newPeople v_t_newForgetsAt v_t_newFillsAt v_t_top v_t_firstValue v_t_lastValue v_t_waiting v_t_depth v_t_acts v_t_isWinter v_t_learntNow v_t_forgottenNow v_t_heardMany v_t_its0 v_t_hasImage v_t_imageActs v_t_imageHeard x1 r1 o1_0 hz1) (cwV 1 hts gX12_song_X12_isSong rfl rfl rfl (by decide +kernel) ⟨Nat.le_of_ble_eq_true rfl, Nat.le_of_ble_eq_true rfl⟩) (gs_preV (ci := 12) hk hP hD (is := [0]) rfl rfl rfl rfl) rfl rfl hl.1 rfl (lv_room (Nat.le_of_ble_eq_true rfl)) dX12_song_7 ⟨Nat.zero_le _, Nat.zero_le _⟩) hP hD hS [0] rfl rfl rfl rfl (fun H locs hP hD hS => ?_)
  refine lv_if_eq (tgt := 22) hx hb dX12_song_10 (by decide) (fun c2 => ?_) (fun c2 => ?_)
  · replace h := gs_ift c2 h
    refine lv_iconst (v := 0) hx hb dX12_song_22 (by decide) ?_
    have h := Option.some.inj h
    obtain ⟨w0, h⟩ := Prod.mk.inj h
    subst h
    subst w0
    exact hret _ _ _ _ hP hS dX12_song_23
  · replace h := gs_iff c2 h
    refine lv_aload_n hx hb dX12_song_13 rfl (lv_at hl 0 rfl) ?_
    refine lv_iload_n hx hb dX12_song_14 rfl (lv_at hl 2 rfl) ?_
    refine lv_iconst (v := 4) hx hb dX12_song_15 (by decide) ?_
    obtain ⟨r3, o3_0, hz3, h⟩ := gs_b2_e h
    refine gs_backWi (ws1 := (w_X12_song E a_t a_t_songLong a_t_rows a_t_firstNote a_t_wit a_t_code a_t_tape a_t_refused a_t_newSongLong a_t_newFirstNote a_t_newWit a_t_newRow a_t_readCode a_t_waits a_t_tested a_t_isTold a_t_ahead a_t_told a_t_pile a_t_common a_t_mostOf a_t_likes a_t_heard a_t_soon a_t_soonAll a_t_imageRow a_t_imageAhead a_t_imageHears o3_0 v_t_songs v_t_people v_t_forgetsAt v_t_fillsAt v_t_taped v_t_faultKind v_t_faultPlace v_t_long1 v_t_next0 v_t_sort v_t_place v_t_long0 v_t_value v_t_sign v_t_word v_t_newSongs v_t_newPeople v_t_newForgetsAt v_t_newFillsAt v_t_top v_t_firstValue v_t_lastValue v_t_waiting v_t_depth v_t_acts v_t_isWinter v_t_learntNow v_t_forgottenNow v_t_heardMany v_t_its0 v_t_hasImage v_t_imageActs v_t_imageHeard r_t_songLong r_t_rows)) (va_runV (As := [.int x2, .int 4]) (rest := []) ⟨hx, hb, hml, hown, hts⟩ (c_X12_isWhat l E a_t a_t_songLong a_t_firstNote a_t_wit a_t_code a_t_tape a_t_refused a_t_newSongLong a_t_newFirstNote a_t_newWit a_t_newRow a_t_readCode a_t_waits a_t_tested a_t_isTold a_t_rows a_t_ahead a_t_told a_t_pile a_t_common a_t_mostOf a_t_likes a_t_heard a_t_soon a_t_soonAll a_t_imageRow a_t_imageAhead a_t_imageHears o1_0 v_t_songs v_t_people v_t_forgetsAt v_t_fillsAt v_t_taped v_t_faultKind v_t_faultPlace v_t_long1 v_t_next0 v_t_sort v_t_place v_t_long0 v_t_value v_t_sign v_t_word v_t_newSongs v_t_newPeople v_t_newForgetsAt v_t_newFillsAt v_t_top v_t_firstValue v_t_lastValue v_t_waiting v_t_depth v_t_acts v_t_isWinter v_t_learntNow v_t_forgottenNow v_t_heardMany v_t_its0 v_t_hasImage v_t_imageActs v_t_imageHeard x2 4 r3 o3_0 hz3) (cwV 2 hts gX12_song_X12_isWhat rfl rfl rfl (by decide +kernel) ⟨Nat.le_of_ble_eq_true rfl, Nat.le_of_ble_eq_true rfl⟩) (gs_preV (ci := 12) hk hP hD (is := [0]) rfl rfl rfl rfl) rfl rfl hl.1 rfl (lv_room (Nat.le_of_ble_eq_true rfl)) dX12_song_16 ⟨Nat.zero_le _, Nat.zero_le _⟩) hP hD hS [0] rfl rfl rfl rfl (fun H locs hP hD hS => ?_)
    refine lv_if_ne (tgt := 24) hx hb dX12_song_19 (by decide) (fun c4 => ?_) (fun c4 => ?_)
    · replace h := gs_iff c4 h
      refine lv_aload_n hx hb dX12_song_24 rfl (lv_at hl 0 rfl) ?_
      refine lv_iload_n hx hb dX12_song_25 rfl (lv_at hl 1 rfl) ?_
      obtain ⟨r5, hz5, h⟩ := gs_b1_e h
      refine gs_backRi (va_runV (As := [.int x1]) (rest := []) ⟨hx, hb, hml, hown, hts⟩ (c_X12_nearest l E a_t a_t_songLong a_t_rows a_t_firstNote a_t_wit a_t_code a_t_tape a_t_refused a_t_newSongLong a_t_newFirstNote a_t_newWit a_t_newRow a_t_readCode a_t_waits a_t_tested a_t_isTold a_t_ahead a_t_told a_t_pile a_t_common a_t_mostOf a_t_likes a_t_heard a_t_soon a_t_soonAll a_t_imageRow a_t_imageAhead a_t_imageHears o3_0 v_t_songs v_t_people v_t_forgetsAt v_t_fillsAt v_t_taped v_t_faultKind v_t_faultPlace v_t_long1 v_t_next0 v_t_sort v_t_place v_t_long0 v_t_value v_t_sign v_t_word v_t_newSongs v_t_newPeople v_t_newForgetsAt v_t_newFillsAt v_t_top v_t_firstValue v_t_lastValue v_t_waiting v_t_depth v_t_acts v_t_isWinter v_t_learntNow v_t_forgottenNow v_t_heardMany v_t_its0 v_t_hasImage v_t_imageActs v_t_imageHeard r_t_songLong r_t_rows x1 r5 hz5) (cwV 1 hts gX12_song_X12_nearest rfl rfl rfl (by decide +kernel) ⟨Nat.le_of_ble_eq_true rfl, Nat.le_of_ble_eq_true rfl⟩) (gs_preV (ci := 12) hk hP hD (is := [0, 1, 2]) rfl rfl rfl rfl) rfl rfl hl.1 rfl (lv_room (Nat.le_of_ble_eq_true rfl)) dX12_song_26 ⟨Nat.zero_le _, Nat.zero_le _⟩) ?_
      refine lv_istore_n (lv' := [(3, .int r5), (0, .ref a_t), (1, .int x1), (2, .int x2)]) hx hb dX12_song_29 rfl hl (by decide) rfl (fun ls hl => ?_)
      refine lv_iload_n hx hb dX12_song_30 rfl (lv_at hl 3 rfl) ?_
      refine lv_if_ne (tgt := 43) hx hb dX12_song_31 (by decide) (fun c6 => ?_) (fun c6 => ?_)
      · replace h := gs_iff c6 h
        refine lv_iload_n hx hb dX12_song_43 rfl (lv_at hl 3 rfl) ?_
        refine lv_iconst (v := 1) hx hb dX12_song_44 (by decide) ?_
        refine lv_icmp_ne (tgt := 57) hx hb dX12_song_45 (by decide) (fun c7 => ?_) (fun c7 => ?_)
        · replace h := gs_iff c7 h
          refine lv_iload_n hx hb dX12_song_57 rfl (lv_at hl 3 rfl) ?_
          refine lv_iconst (v := 2) hx hb dX12_song_58 (by decide) ?_
          refine lv_icmp_ne (tgt := 71) hx hb dX12_song_59 (by decide) (fun c8 => ?_) (fun c8 => ?_)
          · replace h := gs_iff c8 h
            refine lv_iload_n hx hb dX12_song_71 rfl (lv_at hl 3 rfl) ?_
            refine lv_iconst (v := 3) hx hb dX12_song_72 (by decide) ?_
            refine lv_icmp_eq (tgt := 81) hx hb dX12_song_73 (by decide) (fun c9 => ?_) (fun c9 => ?_)
            · replace h := gs_ift c9 h
              refine lv_iload_n hx hb dX12_song_81 rfl (lv_at hl 0 rfl) ?_
              refine lv_goto (tgt := 91) hx hb dX12_song_82 (by decide) ?_
              have h := Option.some.inj h
              obtain ⟨w0, h⟩ := Prod.mk.inj h
              subst h
              subst w0
              exact hret _ _ _ _ hP hS dX12_song_91
            · replace h := gs_iff c9 h
              refine lv_iload_n hx hb dX12_song_76 rfl (lv_at hl 0 rfl) ?_
              refine lv_iconst (v := (-1)) hx hb dX12_song_77 (by decide) ?_
              refine lv_icmp_ne (tgt := 85) hx hb dX12_song_78 (by decide) (fun c10 => ?_) (fun c10 => ?_)
              · replace h := gs_iff c10 h
                refine lv_aload_n hx hb dX12_song_85 rfl (lv_at hl 1 rfl) ?_
                refine lv_iload_n hx hb dX12_song_86 rfl (lv_at hl 0 rfl) ?_
                refine lv_iload_n hx hb dX12_song_87 rfl (lv_at hl 2 rfl) ?_
                obtain ⟨r11, hz11, h⟩ := gs_b1_e h
                refine gs_backRi (va_runV (As := [.int r5, .int x1]) (rest := []) ⟨hx, hb, hml, hown, hts⟩ (c_X12_unlikeAll l E a_t a_t_songLong a_t_rows a_t_firstNote a_t_wit a_t_code a_t_tape a_t_refused a_t_newSongLong a_t_newFirstNote a_t_newWit a_t_newRow a_t_readCode a_t_waits a_t_tested a_t_isTold a_t_ahead a_t_told a_t_pile a_t_common a_t_mostOf a_t_likes a_t_heard a_t_soon a_t_soonAll a_t_imageRow a_t_imageAhead a_t_imageHears o3_0 v_t_songs v_t_people v_t_forgetsAt v_t_fillsAt v_t_taped v_t_faultKind v_t_faultPlace v_t_long1 v_t_next0 v_t_sort v_t_place v_t_long0 v_t_value v_t_sign v_t_word v_t_newSongs v_t_newPeople v_t_newForgetsAt v_t_newFillsAt v_t_top v_t_firstValue v_t_lastValue v_t_waiting v_t_depth v_t_acts v_t_isWinter v_t_learntNow v_t_forgottenNow v_t_heardMany v_t_its0 v_t_hasImage v_t_imageActs v_t_imageHeard r_t_songLong r_t_rows r5 x1 r11 hz11) (cwV 2 hts gX12_song_X12_unlikeAll rfl rfl rfl (by decide +kernel) ⟨Nat.le_of_ble_eq_true rfl, Nat.le_of_ble_eq_true rfl⟩) (gs_preV (ci := 12) hk hP hD (is := [0, 1, 2]) rfl rfl rfl rfl) rfl rfl hl.1 rfl (lv_room (Nat.le_of_ble_eq_true rfl)) dX12_song_88 ⟨Nat.zero_le _, Nat.zero_le _⟩) ?_
                have h := Option.some.inj h
                obtain ⟨w0, h⟩ := Prod.mk.inj h
                subst h
                subst w0
                exact hret _ _ _ _ hP hS dX12_song_91
              · replace h := gs_ift c10 h
                refine lv_iload_n hx hb dX12_song_81 rfl (lv_at hl 0 rfl) ?_
                refine lv_goto (tgt := 91) hx hb dX12_song_82 (by decide) ?_
                have h := Option.some.inj h
                obtain ⟨w0, h⟩ := Prod.mk.inj h
                subst h
                subst w0
                exact hret _ _ _ _ hP hS dX12_song_91
          · replace h := gs_ift c8 h
            refine lv_aload_n hx hb dX12_song_62 rfl (lv_at hl 1 rfl) ?_
            refine lv_iconst (v := 0) hx hb dX12_song_63 (by decide) ?_
            refine lv_iload_n hx hb dX12_song_64 rfl (lv_at hl 2 rfl) ?_
            obtain ⟨r12, hz12, h⟩ := gs_b1_e h
            refine gs_backRi (va_runV (As := [.int 0, .int x1]) (rest := []) ⟨hx, hb, hml, hown, hts⟩ (c_X12_wholeOnes l E a_t a_t_songLong a_t_rows a_t_firstNote a_t_wit a_t_code a_t_tape a_t_refused a_t_newSongLong a_t_newFirstNote a_t_newWit a_t_newRow a_t_readCode a_t_waits a_t_tested a_t_isTold a_t_ahead a_t_told a_t_pile a_t_common a_t_mostOf a_t_likes a_t_heard a_t_soon a_t_soonAll a_t_imageRow a_t_imageAhead a_t_imageHears o3_0 v_t_songs v_t_people v_t_forgetsAt v_t_fillsAt v_t_taped v_t_faultKind v_t_faultPlace v_t_long1 v_t_next0 v_t_sort v_t_place v_t_long0 v_t_value v_t_sign v_t_word v_t_newSongs v_t_newPeople v_t_newForgetsAt v_t_newFillsAt v_t_top v_t_firstValue v_t_lastValue v_t_waiting v_t_depth v_t_acts v_t_isWinter v_t_learntNow v_t_forgottenNow v_t_heardMany v_t_its0 v_t_hasImage v_t_imageActs v_t_imageHeard r_t_songLong r_t_rows 0 x1 r12 hz12) (cwV 2 hts gX12_song_X12_wholeOnes rfl rfl rfl (by decide +kernel) ⟨Nat.le_of_ble_eq_true rfl, Nat.le_of_ble_eq_true rfl⟩) (gs_preV (ci := 12) hk hP hD (is := [0, 1, 2]) rfl rfl rfl rfl) rfl rfl hl.1 rfl (lv_room (Nat.le_of_ble_eq_true rfl)) dX12_song_65 ⟨Nat.zero_le _, Nat.zero_le _⟩) ?_
            refine lv_goto (tgt := 91) hx hb dX12_song_68 (by decide) ?_
            have h := Option.some.inj h
            obtain ⟨w0, h⟩ := Prod.mk.inj h
            subst h
            subst w0
            exact hret _ _ _ _ hP hS dX12_song_91
        · replace h := gs_ift c7 h
          refine lv_aload_n hx hb dX12_song_48 rfl (lv_at hl 1 rfl) ?_
          refine lv_iconst (v := 0) hx hb dX12_song_49 (by decide) ?_
          refine lv_iload_n hx hb dX12_song_50 rfl (lv_at hl 2 rfl) ?_
          obtain ⟨r13, hz13, h⟩ := gs_b1_e h
          refine gs_backRi (va_runV (As := [.int 0, .int x1]) (rest := []) ⟨hx, hb, hml, hown, hts⟩ (c_X12_whoHave l E a_t a_t_rows a_t_songLong a_t_firstNote a_t_wit a_t_code a_t_tape a_t_refused a_t_newSongLong a_t_newFirstNote a_t_newWit a_t_newRow a_t_readCode a_t_waits a_t_tested a_t_isTold a_t_ahead a_t_told a_t_pile a_t_common a_t_mostOf a_t_likes a_t_heard a_t_soon a_t_soonAll a_t_imageRow a_t_imageAhead a_t_imageHears o3_0 v_t_songs v_t_people v_t_forgetsAt v_t_fillsAt v_t_taped v_t_faultKind v_t_faultPlace v_t_long1 v_t_next0 v_t_sort v_t_place v_t_long0 v_t_value v_t_sign v_t_word v_t_newSongs v_t_newPeople v_t_newForgetsAt v_t_newFillsAt v_t_top v_t_firstValue v_t_lastValue v_t_waiting v_t_depth v_t_acts v_t_isWinter v_t_learntNow v_t_forgottenNow v_t_heardMany v_t_its0 v_t_hasImage v_t_imageActs v_t_imageHeard r_t_rows 0 x1 r13 hz13) (cwV 2 hts gX12_song_X12_whoHave rfl rfl rfl (by decide +kernel) ⟨Nat.le_of_ble_eq_true rfl, Nat.le_of_ble_eq_true rfl⟩) (gs_preV (ci := 12) hk hP hD (is := [0, 2]) rfl rfl rfl rfl) rfl rfl hl.1 rfl (lv_room (Nat.le_of_ble_eq_true rfl)) dX12_song_51 ⟨Nat.zero_le _, Nat.zero_le _⟩) ?_
          refine lv_goto (tgt := 91) hx hb dX12_song_54 (by decide) ?_
          have h := Option.some.inj h
          obtain ⟨w0, h⟩ := Prod.mk.inj h
          subst h
          subst w0
          exact hret _ _ _ _ hP hS dX12_song_91
      · replace h := gs_ift c6 h
        refine lv_aload_n hx hb dX12_song_34 rfl (lv_at hl 1 rfl) ?_
        refine va_get (D := E.1) (ci := 12) (v := .ref a_t_songLong) (C := RX12) (T := TX12) (N := 61) hx hb hts (fun _ h => (List.mem_cons_of_mem _ (List.mem_append_right _ h))) hown hk.1 hP 0 rfl rfl 5 (by decide) (hts (.fieldLink RX12 16 "GapSongsModel" "songLong" "[I") (List.mem_cons_of_mem _ (List.mem_append_left _ (List.mem_append_left _ (List.mem_of_getElem? (i := 1) rfl))))) (fun _ h9 => h9) rfl dX12_song_35 ?_
        refine lv_iload_n hx hb dX12_song_38 rfl (lv_at hl 2 rfl) ?_
        obtain ⟨g14, h⟩ := gs_gd_e h
        refine va_iald hx hb hk.1 hP 1 0 rfl rfl (gs_in_e g14) dX12_song_39 ?_
        refine lv_goto (tgt := 91) hx hb dX12_song_40 (by decide) ?_
        have h := Option.some.inj h
        obtain ⟨w0, h⟩ := Prod.mk.inj h
        subst h
        subst w0
        exact hret _ _ _ _ hP hS dX12_song_91
    · replace h := gs_ift c4 h
      refine lv_iconst (v := 0) hx hb dX12_song_22 (by decide) ?_
      have h := Option.some.inj h
      obtain ⟨w0, h⟩ := Prod.mk.inj h
      subst h
      subst w0
      exact hret _ _ _ _ hP hS dX12_song_23

set_option maxRecDepth 100000 in
theorem ggX12_songsOf_X12_doesHave : GoodIn wsX12_songsOf wsX12_doesHave := goodIn_r _ [6, 7, 8, 9, 10, 11, 12, 13, 14, 15, 16, 17, 18, 19, 20, 21, 22, 23, 24, 25, 26, 27, 28, 29, 30, 31, 32, 33, 34, 35, 36, 37, 38, 39, 40, 41, 42, 43, 44, 45, 46, 47, 48, 49, 50, 51, 52, 53, 54, 55, 56, 57, 58, 59, 60, 61, 62, 63, 64, 65, 66, 67, 68] rfl (by decide +kernel)
set_option maxRecDepth 100000 in
theorem gX12_songsOf_X12_doesHave : GoodIn wsX12_songsOf (wsV RX12 297 RX12 yX12_doesHave wsX12_doesHave) := goodIn_app (goodIn_of _ (by decide +kernel)) ggX12_songsOf_X12_doesHave
theorem dX12_songsOf_0 : decode cX12_songsOf 0 = .ok (.iconst 0, 1) := by decide +kernel
theorem dX12_songsOf_1 : decode cX12_songsOf 1 = .ok (.istore_n 3, 1) := by decide +kernel
theorem dX12_songsOf_2 : decode cX12_songsOf 2 = .ok (.iconst 0, 1) := by decide +kernel
theorem dX12_songsOf_3 : decode cX12_songsOf 3 = .ok (.istore 4, 2) := by decide +kernel
theorem dX12_songsOf_5 : decode cX12_songsOf 5 = .ok (.iload 4, 2) := by decide +kernel
theorem dX12_songsOf_7 : decode cX12_songsOf 7 = .ok (.aload_n 0, 1) := by decide +kernel
theorem dX12_songsOf_8 : decode cX12_songsOf 8 = .ok (.getfield 273, 3) := by decide +kernel
theorem dX12_songsOf_11 : decode cX12_songsOf 11 = .ok (.if_icmp .ge 31, 3) := by decide +kernel
theorem dX12_songsOf_14 : decode cX12_songsOf 14 = .ok (.iload_n 3, 1) := by decide +kernel
theorem dX12_songsOf_15 : decode cX12_songsOf 15 = .ok (.aload_n 0, 1) := by decide +kernel
theorem dX12_songsOf_16 : decode cX12_songsOf 16 = .ok (.iload_n 1, 1) := by decide +kernel
theorem dX12_songsOf_17 : decode cX12_songsOf 17 = .ok (.iload_n 2, 1) := by decide +kernel
theorem dX12_songsOf_18 : decode cX12_songsOf 18 = .ok (.iload 4, 2) := by decide +kernel
theorem dX12_songsOf_20 : decode cX12_songsOf 20 = .ok (.invokevirtual 297, 3) := by decide +kernel
theorem dX12_songsOf_23 : decode cX12_songsOf 23 = .ok (.ifCond .eq 10, 3) := by decide +kernel
theorem dX12_songsOf_26 : decode cX12_songsOf 26 = .ok (.iconst 1, 1) := by decide +kernel
theorem dX12_songsOf_27 : decode cX12_songsOf 27 = .ok (.iload 4, 2) := by decide +kernel
theorem dX12_songsOf_29 : decode cX12_songsOf 29 = .ok (.ishl, 1) := by decide +kernel
theorem dX12_songsOf_30 : decode cX12_songsOf 30 = .ok (.goto 4, 3) := by decide +kernel
theorem dX12_songsOf_33 : decode cX12_songsOf 33 = .ok (.iconst 0, 1) := by decide +kernel
theorem dX12_songsOf_34 : decode cX12_songsOf 34 = .ok (.ior, 1) := by decide +kernel
theorem dX12_songsOf_35 : decode cX12_songsOf 35 = .ok (.istore_n 3, 1) := by decide +kernel
theorem dX12_songsOf_36 : decode cX12_songsOf 36 = .ok (.iinc 4 1, 3) := by decide +kernel
theorem dX12_songsOf_39 : decode cX12_songsOf 39 = .ok (.goto (-34), 3) := by decide +kernel
theorem dX12_songsOf_42 : decode cX12_songsOf 42 = .ok (.iload_n 3, 1) := by decide +kernel
theorem dX12_songsOf_43 : decode cX12_songsOf 43 = .ok (.ireturn, 1) := by decide +kernel
abbrev w_X12_songsOf (E : gs_E) (a_t a_t_rows a_t_songLong a_t_firstNote a_t_wit a_t_code a_t_tape a_t_refused a_t_newSongLong a_t_newFirstNote a_t_newWit a_t_newRow a_t_readCode a_t_waits a_t_tested a_t_isTold a_t_ahead a_t_told a_t_pile a_t_common a_t_mostOf a_t_likes a_t_heard a_t_soon a_t_soonAll a_t_imageRow a_t_imageAhead a_t_imageHears : Nat) (v_t_thrown : Int32) (v_t_songs : Int32) (v_t_people : Int32) (v_t_forgetsAt : Int32) (v_t_fillsAt : Int32) (v_t_taped : Int32) (v_t_faultKind : Int32) (v_t_faultPlace : Int32) (v_t_long1 : Int32) (v_t_next0 : Int32) (v_t_sort : Int32) (v_t_place : Int32) (v_t_long0 : Int32) (v_t_value : Int32) (v_t_sign : Int32) (v_t_word : Int64) (v_t_newSongs : Int32) (v_t_newPeople : Int32) (v_t_newForgetsAt : Int32) (v_t_newFillsAt : Int32) (v_t_top : Int32) (v_t_firstValue : Int32) (v_t_lastValue : Int32) (v_t_waiting : Int32) (v_t_depth : Int32) (v_t_acts : Int32) (v_t_isWinter : Int32) (v_t_learntNow : Int32) (v_t_forgottenNow : Int32) (v_t_heardMany : Int32) (v_t_its0 : Int32) (v_t_hasImage : Int32) (v_t_imageActs : Int32) (v_t_imageHeard : Int32) (r_t_rows : Nat → Int32) : va_W := [(a_t, .inr (12, [.int v_t_thrown, .int v_t_songs, .int v_t_people, .int v_t_forgetsAt, .int v_t_fillsAt, .ref a_t_songLong, .ref a_t_firstNote, .ref a_t_wit, .ref a_t_code, .ref a_t_tape, .int v_t_taped, .int v_t_faultKind, .int v_t_faultPlace, .ref a_t_refused, .int v_t_long1, .int v_t_next0, .int v_t_sort, .int v_t_place, .int v_t_long0, .int v_t_value, .int v_t_sign, .long v_t_word, .int v_t_newSongs, .int v_t_newPeople, .int v_t_newForgetsAt, .int v_t_newFillsAt, .int v_t_top, .int v_t_firstValue, .int v_t_lastValue, .int v_t_waiting, .int v_t_depth, .ref a_t_newSongLong, .ref a_t_newFirstNote, .ref a_t_newWit, .ref a_t_newRow, .ref a_t_readCode, .ref a_t_waits, .ref a_t_tested, .ref a_t_isTold, .ref a_t_rows, .ref a_t_ahead, .int v_t_acts, .ref a_t_told, .ref a_t_pile, .int v_t_isWinter, .int v_t_learntNow, .int v_t_forgottenNow, .ref a_t_common, .ref a_t_mostOf, .ref a_t_likes, .int v_t_heardMany, .ref a_t_heard, .ref a_t_soon, .ref a_t_soonAll, .int v_t_its0, .int v_t_hasImage, .int v_t_imageActs, .int v_t_imageHeard, .ref a_t_imageRow, .ref a_t_imageAhead, .ref a_t_imageHears])), (a_t_rows, .inl (E.2.1, 744, .inl r_t_rows))]
abbrev rm_X12_songsOf : Room := { frames := 1, cells := 0, slots := 0, locals := 23 }
def S_X12_songsOf_5 (p : Program) (l : Launch) (e : Env) (s : State) (m : MethodId) (args : Array Value) (below : List Frame) (meth : Method) (c : Code) (Q : State → Prop) (a_t a_t_rows a_t_songLong a_t_firstNote a_t_wit a_t_code a_t_tape a_t_refused a_t_newSongLong a_t_newFirstNote a_t_newWit a_t_newRow a_t_readCode a_t_waits a_t_tested a_t_isTold a_t_ahead a_t_told a_t_pile a_t_common a_t_mostOf a_t_likes a_t_heard a_t_soon a_t_soonAll a_t_imageRow a_t_imageAhead a_t_imageHears : Nat) (x1 : Int32) (x2 : Int32) (x3 : Int32) (x4 : Int32) : Prop := ∀ (ls : Array Slot), lv_has ls 5 [(0, .ref a_t), (1, .int x1), (2, .int x2), (3, .int x3), (4, .int x4)] → W p l e rm_X12_songsOf s m args below meth c s.heap [] 0 0 Q (F0 m 5 ls [])
def f_X12_songsOf_5 (x1 : Int32) (x2 : Int32) (v_t_songs : Int32) (r_t_rows : Nat → Int32) (K5 : Int32 → Int32 → Option (Int32)) (x3 : Int32) (x4 : Int32) : Option (Int32) :=
  if v_t_songs ≤ x4 then
    some x3
  else
    gs_b1 (f_X12_doesHave x1 x2 x4 r_t_rows) fun r2 =>
    if r2 = 0 then
      K5 (x3 ||| 0) (x4 + 1)
    else
      K5 (x3 ||| (1 <<< (x4 &&& 31))) (x4 + 1)
set_option maxHeartbeats 4000000 in
set_option maxRecDepth 100000 in
theorem t_X12_songsOf_5_b {p : Program} {l : Launch} {e : Env} {s : State} {m : MethodId} {args : Array Value} {below : List Frame} {meth : Method} {c : Code} {Q : State → Prop} {E : gs_E} {a_t a_t_rows a_t_songLong a_t_firstNote a_t_wit a_t_code a_t_tape a_t_refused a_t_newSongLong a_t_newFirstNote a_t_newWit a_t_newRow a_t_readCode a_t_waits a_t_tested a_t_isTold a_t_ahead a_t_told a_t_pile a_t_common a_t_mostOf a_t_likes a_t_heard a_t_soon a_t_soonAll a_t_imageRow a_t_imageAhead a_t_imageHears : Nat} {v_t_thrown : Int32} {v_t_songs : Int32} {v_t_people : Int32} {v_t_forgetsAt : Int32} {v_t_fillsAt : Int32} {v_t_taped : Int32} {v_t_faultKind : Int32} {v_t_faultPlace : Int32} {v_t_long1 : Int32} {v_t_next0 : Int32} {v_t_sort : Int32} {v_t_place : Int32} {v_t_long0 : Int32} {v_t_value : Int32} {v_t_sign : Int32} {v_t_word : Int64} {v_t_newSongs : Int32} {v_t_newPeople : Int32} {v_t_newForgetsAt : Int32} {v_t_newFillsAt : Int32} {v_t_top : Int32} {v_t_firstValue : Int32} {v_t_lastValue : Int32} {v_t_waiting : Int32} {v_t_depth : Int32} {v_t_acts : Int32} {v_t_isWinter : Int32} {v_t_learntNow : Int32} {v_t_forgottenNow : Int32} {v_t_heardMany : Int32} {v_t_its0 : Int32} {v_t_hasImage : Int32} {v_t_imageActs : Int32} {v_t_imageHeard : Int32} {r_t_rows : Nat → Int32} {rr : Int32} (X0 : gs_X wsX12_songsOf cX12_songsOf RX12 5 (some .int) p s m args meth c) (hk : gs_K E s) (hP : va_P E.1 vwCl (w_X12_songsOf E a_t a_t_rows a_t_songLong a_t_firstNote a_t_wit a_t_code a_t_tape a_t_refused a_t_newSongLong a_t_newFirstNote a_t_newWit a_t_newRow a_t_readCode a_t_waits a_t_tested a_t_isTold a_t_ahead a_t_told a_t_pile a_t_common a_t_mostOf a_t_likes a_t_heard a_t_soon a_t_soonAll a_t_imageRow a_t_imageAhead a_t_imageHears v_t_thrown v_t_songs v_t_people v_t_forgetsAt v_t_fillsAt v_t_taped v_t_faultKind v_t_faultPlace v_t_long1 v_t_next0 v_t_sort v_t_place v_t_long0 v_t_value v_t_sign v_t_word v_t_newSongs v_t_newPeople v_t_newForgetsAt v_t_newFillsAt v_t_top v_t_firstValue v_t_lastValue v_t_waiting v_t_depth v_t_acts v_t_isWinter v_t_learntNow v_t_forgottenNow v_t_heardMany v_t_its0 v_t_hasImage v_t_imageActs v_t_imageHeard r_t_rows) s.heap) (hD : va_D (fun _ => True) (w_X12_songsOf E a_t a_t_rows a_t_songLong a_t_firstNote a_t_wit a_t_code a_t_tape a_t_refused a_t_newSongLong a_t_newFirstNote a_t_newWit a_t_newRow a_t_readCode a_t_waits a_t_tested a_t_isTold a_t_ahead a_t_told a_t_pile a_t_common a_t_mostOf a_t_likes a_t_heard a_t_soon a_t_soonAll a_t_imageRow a_t_imageAhead a_t_imageHears v_t_thrown v_t_songs v_t_people v_t_forgetsAt v_t_fillsAt v_t_taped v_t_faultKind v_t_faultPlace v_t_long1 v_t_next0 v_t_sort v_t_place v_t_long0 v_t_value v_t_sign v_t_word v_t_newSongs v_t_newPeople v_t_newForgetsAt v_t_newFillsAt v_t_top v_t_firstValue v_t_lastValue v_t_waiting v_t_depth v_t_acts v_t_isWinter v_t_learntNow v_t_forgottenNow v_t_heardMany v_t_its0 v_t_hasImage v_t_imageActs v_t_imageHeard r_t_rows)) {x1 : Int32} {x2 : Int32} {x3 : Int32} {x4 : Int32} (hret : ∀ (pc : Nat) (ls : Array Slot), decode cX12_songsOf pc = .ok (.ireturn, 1) → W p l e rm_X12_songsOf s m args below meth c s.heap [] 0 0 Q (F0 m pc ls [.int rr])) {K5 : Int32 → Int32 → Option (Int32)} (hK5 : ∀ (x3 : Int32) (x4 : Int32), K5 x3 x4 = some rr → S_X12_songsOf_5 p l e s m args below meth c Q a_t a_t_rows a_t_songLong a_t_firstNote a_t_wit a_t_code a_t_tape a_t_refused a_t_newSongLong a_t_newFirstNote a_t_newWit a_t_newRow a_t_readCode a_t_waits a_t_tested a_t_isTold a_t_ahead a_t_told a_t_pile a_t_common a_t_mostOf a_t_likes a_t_heard a_t_soon a_t_soonAll a_t_imageRow a_t_imageAhead a_t_imageHears x1 x2 x3 x4) (h : f_X12_songsOf_5 x1 x2 v_t_songs r_t_rows K5 x3 x4 = some rr) : S_X12_songsOf_5 p l e s m args below meth c Q a_t a_t_rows a_t_songLong a_t_firstNote a_t_wit a_t_code a_t_tape a_t_refused a_t_newSongLong a_t_newFirstNote a_t_newWit a_t_newRow a_t_readCode a_t_waits a_t_tested a_t_isTold a_t_ahead a_t_told a_t_pile a_t_common a_t_mostOf a_t_likes a_t_heard a_t_soon a_t_soonAll a_t_imageRow a_t_imageAhead a_t_imageHears x1 x2 x3 x4 := by
  obtain ⟨hx, hb, hml, hown, hts, hr, hlk⟩ := id X0
  intro ls hl
  unfold f_X12_songsOf_5 at h
  refine lv_iload hx hb dX12_songsOf_5 (lv_at hl 4 rfl) ?_
  refine lv_aload_n hx hb dX12_songsOf_7 rfl (lv_at hl 0 rfl) ?_
  refine va_get (D := E.1) (ci := 12) (v := .int v_t_songs) (C := RX12) (T := TX12) (N := 61) hx hb hts (fun _ h => (List.mem_cons_of_mem _ (List.mem_append_right _ h))) hown hk.1 hP 0 rfl rfl 1 (by decide) (hts (.fieldLink RX12 273 "GapSongsModel" "songs" "I") (List.mem_cons_of_mem _ (List.mem_append_left _ (List.mem_of_getElem? (i := 0) rfl)))) (fun _ h9 => h9) rfl dX12_songsOf_8 ?_
  refine lv_icmp_ge (tgt := 42) hx hb dX12_songsOf_11 (by decide) (fun c1 => ?_) (fun c1 => ?_)
  · replace h := gs_ift c1 h
    refine lv_iload_n hx hb dX12_songsOf_42 rfl (lv_at hl 3 rfl) ?_
    have h := Option.some.inj h
    subst h
    exact hret _ _ dX12_songsOf_43
  · replace h := gs_iff c1 h
    refine lv_iload_n hx hb dX12_songsOf_14 rfl (lv_at hl 3 rfl) ?_
    refine lv_aload_n hx hb dX12_songsOf_15 rfl (lv_at hl 0 rfl) ?_
    refine lv_iload_n hx hb dX12_songsOf_16 rfl (lv_at hl 1 rfl) ?_
    refine lv_iload_n hx hb dX12_songsOf_17 rfl (lv_at hl 2 rfl) ?_
    refine lv_iload hx hb dX12_songsOf_18 (lv_at hl 4 rfl) ?_
    obtain ⟨r2, hz2, h⟩ := gs_b1_e h
    refine gs_backRi (va_runV (As := [.int x1, .int x2, .int x4]) (rest := [.int x3]) ⟨hx, hb, hml, hown, hts⟩ (c_X12_doesHave l E a_t a_t_rows a_t_songLong a_t_firstNote a_t_wit a_t_code a_t_tape a_t_refused a_t_newSongLong a_t_newFirstNote a_t_newWit a_t_newRow a_t_readCode a_t_waits a_t_tested a_t_isTold a_t_ahead a_t_told a_t_pile a_t_common a_t_mostOf a_t_likes a_t_heard a_t_soon a_t_soonAll a_t_imageRow a_t_imageAhead a_t_imageHears v_t_thrown v_t_songs v_t_people v_t_forgetsAt v_t_fillsAt v_t_taped v_t_faultKind v_t_faultPlace v_t_long1 v_t_next0 v_t_sort v_t_place v_t_long0 v_t_value v_t_sign v_t_word v_t_newSongs v_t_newPeople v_t_newForgetsAt v_t_newFillsAt v_t_top v_t_firstValue v_t_lastValue v_t_waiting v_t_depth v_t_acts v_t_isWinter v_t_learntNow v_t_forgottenNow v_t_heardMany v_t_its0 v_t_hasImage v_t_imageActs v_t_imageHeard r_t_rows x1 x2 x4 r2 hz2) (cwV 3 hts gX12_songsOf_X12_doesHave rfl rfl rfl (by decide +kernel) ⟨Nat.le_of_ble_eq_true rfl, Nat.le_of_ble_eq_true rfl⟩) (gs_preV (ci := 12) hk hP hD (is := [0, 1]) rfl rfl rfl rfl) rfl rfl hl.1 rfl (lv_room (Nat.le_of_ble_eq_true rfl)) dX12_songsOf_20 ⟨Nat.zero_le _, Nat.zero_le _⟩) ?_
    refine lv_if_eq (tgt := 33) hx hb dX12_songsOf_23 (by decide) (fun c3 => ?_) (fun c3 => ?_)
    · replace h := gs_ift c3 h
      refine lv_iconst (v := 0) hx hb dX12_songsOf_33 (by decide) ?_
      refine lv_ior hx hb dX12_songsOf_34 ?_
      refine lv_istore_n (lv' := [(3, .int (x3 ||| 0)), (0, .ref a_t), (1, .int x1), (2, .int x2), (4, .int x4)]) hx hb dX12_songsOf_35 rfl hl (by decide) rfl (fun ls hl => ?_)
      refine lv_iinc (v := x4 + 1) (lv' := [(4, .int (x4 + 1)), (3, .int (x3 ||| 0)), (0, .ref a_t), (1, .int x1), (2, .int x2)]) hx hb dX12_songsOf_36 hl (k := 4) rfl rfl (by decide) rfl (fun ls hl => ?_)
      refine lv_goto (tgt := 5) hx hb dX12_songsOf_39 (by decide) ?_
      exact hK5 (x3 ||| 0) (x4 + 1) h _ (lv_sub hl [2, 3, 4, 1, 0] rfl)
    · replace h := gs_iff c3 h
      refine lv_iconst (v := 1) hx hb dX12_songsOf_26 (by decide) ?_
      refine lv_iload hx hb dX12_songsOf_27 (lv_at hl 4 rfl) ?_
      refine lv_ishl hx hb dX12_songsOf_29 ?_
      refine lv_goto (tgt := 34) hx hb dX12_songsOf_30 (by decide) ?_
      refine lv_ior hx hb dX12_songsOf_34 ?_
      refine lv_istore_n (lv' := [(3, .int (x3 ||| (1 <<< (x4 &&& 31)))), (0, .ref a_t), (1, .int x1), (2, .int x2), (4, .int x4)]) hx hb dX12_songsOf_35 rfl hl (by decide) rfl (fun ls hl => ?_)
      refine lv_iinc (v := x4 + 1) (lv' := [(4, .int (x4 + 1)), (3, .int (x3 ||| (1 <<< (x4 &&& 31)))), (0, .ref a_t), (1, .int x1), (2, .int x2)]) hx hb dX12_songsOf_36 hl (k := 4) rfl rfl (by decide) rfl (fun ls hl => ?_)
      refine lv_goto (tgt := 5) hx hb dX12_songsOf_39 (by decide) ?_
      exact hK5 (x3 ||| (1 <<< (x4 &&& 31))) (x4 + 1) h _ (lv_sub hl [2, 3, 4, 1, 0] rfl)
set_option maxHeartbeats 4000000 in
set_option maxRecDepth 100000 in
theorem t_X12_songsOf_5_n {p : Program} {l : Launch} {e : Env} {s : State} {m : MethodId} {args : Array Value} {below : List Frame} {meth : Method} {c : Code} {Q : State → Prop} {E : gs_E} {a_t a_t_rows a_t_songLong a_t_firstNote a_t_wit a_t_code a_t_tape a_t_refused a_t_newSongLong a_t_newFirstNote a_t_newWit a_t_newRow a_t_readCode a_t_waits a_t_tested a_t_isTold a_t_ahead a_t_told a_t_pile a_t_common a_t_mostOf a_t_likes a_t_heard a_t_soon a_t_soonAll a_t_imageRow a_t_imageAhead a_t_imageHears : Nat} {v_t_thrown : Int32} {v_t_songs : Int32} {v_t_people : Int32} {v_t_forgetsAt : Int32} {v_t_fillsAt : Int32} {v_t_taped : Int32} {v_t_faultKind : Int32} {v_t_faultPlace : Int32} {v_t_long1 : Int32} {v_t_next0 : Int32} {v_t_sort : Int32} {v_t_place : Int32} {v_t_long0 : Int32} {v_t_value : Int32} {v_t_sign : Int32} {v_t_word : Int64} {v_t_newSongs : Int32} {v_t_newPeople : Int32} {v_t_newForgetsAt : Int32} {v_t_newFillsAt : Int32} {v_t_top : Int32} {v_t_firstValue : Int32} {v_t_lastValue : Int32} {v_t_waiting : Int32} {v_t_depth : Int32} {v_t_acts : Int32} {v_t_isWinter : Int32} {v_t_learntNow : Int32} {v_t_forgottenNow : Int32} {v_t_heardMany : Int32} {v_t_its0 : Int32} {v_t_hasImage : Int32} {v_t_imageActs : Int32} {v_t_imageHeard : Int32} {r_t_rows : Nat → Int32} {rr : Int32} (X0 : gs_X wsX12_songsOf cX12_songsOf RX12 5 (some .int) p s m args meth c) (hk : gs_K E s) (hP : va_P E.1 vwCl (w_X12_songsOf E a_t a_t_rows a_t_songLong a_t_firstNote a_t_wit a_t_code a_t_tape a_t_refused a_t_newSongLong a_t_newFirstNote a_t_newWit a_t_newRow a_t_readCode a_t_waits a_t_tested a_t_isTold a_t_ahead a_t_told a_t_pile a_t_common a_t_mostOf a_t_likes a_t_heard a_t_soon a_t_soonAll a_t_imageRow a_t_imageAhead a_t_imageHears v_t_thrown v_t_songs v_t_people v_t_forgetsAt v_t_fillsAt v_t_taped v_t_faultKind v_t_faultPlace v_t_long1 v_t_next0 v_t_sort v_t_place v_t_long0 v_t_value v_t_sign v_t_word v_t_newSongs v_t_newPeople v_t_newForgetsAt v_t_newFillsAt v_t_top v_t_firstValue v_t_lastValue v_t_waiting v_t_depth v_t_acts v_t_isWinter v_t_learntNow v_t_forgottenNow v_t_heardMany v_t_its0 v_t_hasImage v_t_imageActs v_t_imageHeard r_t_rows) s.heap) (hD : va_D (fun _ => True) (w_X12_songsOf E a_t a_t_rows a_t_songLong a_t_firstNote a_t_wit a_t_code a_t_tape a_t_refused a_t_newSongLong a_t_newFirstNote a_t_newWit a_t_newRow a_t_readCode a_t_waits a_t_tested a_t_isTold a_t_ahead a_t_told a_t_pile a_t_common a_t_mostOf a_t_likes a_t_heard a_t_soon a_t_soonAll a_t_imageRow a_t_imageAhead a_t_imageHears v_t_thrown v_t_songs v_t_people v_t_forgetsAt v_t_fillsAt v_t_taped v_t_faultKind v_t_faultPlace v_t_long1 v_t_next0 v_t_sort v_t_place v_t_long0 v_t_value v_t_sign v_t_word v_t_newSongs v_t_newPeople v_t_newForgetsAt v_t_newFillsAt v_t_top v_t_firstValue v_t_lastValue v_t_waiting v_t_depth v_t_acts v_t_isWinter v_t_learntNow v_t_forgottenNow v_t_heardMany v_t_its0 v_t_hasImage v_t_imageActs v_t_imageHeard r_t_rows)) {x1 : Int32} {x2 : Int32} (hret : ∀ (pc : Nat) (ls : Array Slot), decode cX12_songsOf pc = .ok (.ireturn, 1) → W p l e rm_X12_songsOf s m args below meth c s.heap [] 0 0 Q (F0 m pc ls [.int rr])) : ∀ (n : Nat) (x3 : Int32) (x4 : Int32), gs_it (fun _ _ => none) (f_X12_songsOf_5 x1 x2 v_t_songs r_t_rows) n x3 x4 = some rr → S_X12_songsOf_5 p l e s m args below meth c Q a_t a_t_rows a_t_songLong a_t_firstNote a_t_wit a_t_code a_t_tape a_t_refused a_t_newSongLong a_t_newFirstNote a_t_newWit a_t_newRow a_t_readCode a_t_waits a_t_tested a_t_isTold a_t_ahead a_t_told a_t_pile a_t_common a_t_mostOf a_t_likes a_t_heard a_t_soon a_t_soonAll a_t_imageRow a_t_imageAhead a_t_imageHears x1 x2 x3 x4 := by
  intro n
  induction n with
  | zero =>
    intro x3 x4 h
    have h : (none : Option (Int32)) = some rr := h
    cases h
  | succ n ih =>
    intro x3 x4 h
    exact t_X12_songsOf_5_b X0 hk hP hD hret  (K5 := gs_it (fun _ _ => none) (f_X12_songsOf_5 x1 x2 v_t_songs r_t_rows) n) (hK5 := ih) (h := h)
theorem t_X12_songsOf_5 {p : Program} {l : Launch} {e : Env} {s : State} {m : MethodId} {args : Array Value} {below : List Frame} {meth : Method} {c : Code} {Q : State → Prop} {E : gs_E} {a_t a_t_rows a_t_songLong a_t_firstNote a_t_wit a_t_code a_t_tape a_t_refused a_t_newSongLong a_t_newFirstNote a_t_newWit a_t_newRow a_t_readCode a_t_waits a_t_tested a_t_isTold a_t_ahead a_t_told a_t_pile a_t_common a_t_mostOf a_t_likes a_t_heard a_t_soon a_t_soonAll a_t_imageRow a_t_imageAhead a_t_imageHears : Nat} {v_t_thrown : Int32} {v_t_songs : Int32} {v_t_people : Int32} {v_t_forgetsAt : Int32} {v_t_fillsAt : Int32} {v_t_taped : Int32} {v_t_faultKind : Int32} {v_t_faultPlace : Int32} {v_t_long1 : Int32} {v_t_next0 : Int32} {v_t_sort : Int32} {v_t_place : Int32} {v_t_long0 : Int32} {v_t_value : Int32} {v_t_sign : Int32} {v_t_word : Int64} {v_t_newSongs : Int32} {v_t_newPeople : Int32} {v_t_newForgetsAt : Int32} {v_t_newFillsAt : Int32} {v_t_top : Int32} {v_t_firstValue : Int32} {v_t_lastValue : Int32} {v_t_waiting : Int32} {v_t_depth : Int32} {v_t_acts : Int32} {v_t_isWinter : Int32} {v_t_learntNow : Int32} {v_t_forgottenNow : Int32} {v_t_heardMany : Int32} {v_t_its0 : Int32} {v_t_hasImage : Int32} {v_t_imageActs : Int32} {v_t_imageHeard : Int32} {r_t_rows : Nat → Int32} {rr : Int32} (X0 : gs_X wsX12_songsOf cX12_songsOf RX12 5 (some .int) p s m args meth c) (hk : gs_K E s) (hP : va_P E.1 vwCl (w_X12_songsOf E a_t a_t_rows a_t_songLong a_t_firstNote a_t_wit a_t_code a_t_tape a_t_refused a_t_newSongLong a_t_newFirstNote a_t_newWit a_t_newRow a_t_readCode a_t_waits a_t_tested a_t_isTold a_t_ahead a_t_told a_t_pile a_t_common a_t_mostOf a_t_likes a_t_heard a_t_soon a_t_soonAll a_t_imageRow a_t_imageAhead a_t_imageHears v_t_thrown v_t_songs v_t_people v_t_forgetsAt v_t_fillsAt v_t_taped v_t_faultKind v_t_faultPlace v_t_long1 v_t_next0 v_t_sort v_t_place v_t_long0 v_t_value v_t_sign v_t_word v_t_newSongs v_t_newPeople v_t_newForgetsAt v_t_newFillsAt v_t_top v_t_firstValue v_t_lastValue v_t_waiting v_t_depth v_t_acts v_t_isWinter v_t_learntNow v_t_forgottenNow v_t_heardMany v_t_its0 v_t_hasImage v_t_imageActs v_t_imageHeard r_t_rows) s.heap) (hD : va_D (fun _ => True) (w_X12_songsOf E a_t a_t_rows a_t_songLong a_t_firstNote a_t_wit a_t_code a_t_tape a_t_refused a_t_newSongLong a_t_newFirstNote a_t_newWit a_t_newRow a_t_readCode a_t_waits a_t_tested a_t_isTold a_t_ahead a_t_told a_t_pile a_t_common a_t_mostOf a_t_likes a_t_heard a_t_soon a_t_soonAll a_t_imageRow a_t_imageAhead a_t_imageHears v_t_thrown v_t_songs v_t_people v_t_forgetsAt v_t_fillsAt v_t_taped v_t_faultKind v_t_faultPlace v_t_long1 v_t_next0 v_t_sort v_t_place v_t_long0 v_t_value v_t_sign v_t_word v_t_newSongs v_t_newPeople v_t_newForgetsAt v_t_newFillsAt v_t_top v_t_firstValue v_t_lastValue v_t_waiting v_t_depth v_t_acts v_t_isWinter v_t_learntNow v_t_forgottenNow v_t_heardMany v_t_its0 v_t_hasImage v_t_imageActs v_t_imageHeard r_t_rows)) {x1 : Int32} {x2 : Int32} {x3 : Int32} {x4 : Int32} (hret : ∀ (pc : Nat) (ls : Array Slot), decode cX12_songsOf pc = .ok (.ireturn, 1) → W p l e rm_X12_songsOf s m args below meth c s.heap [] 0 0 Q (F0 m pc ls [.int rr])) (h : gs_it (fun _ _ => none) (f_X12_songsOf_5 x1 x2 v_t_songs r_t_rows) gs_fuel x3 x4 = some rr) : S_X12_songsOf_5 p l e s m args below meth c Q a_t a_t_rows a_t_songLong a_t_firstNote a_t_wit a_t_code a_t_tape a_t_refused a_t_newSongLong a_t_newFirstNote a_t_newWit a_t_newRow a_t_readCode a_t_waits a_t_tested a_t_isTold a_t_ahead a_t_told a_t_pile a_t_common a_t_mostOf a_t_likes a_t_heard a_t_soon a_t_soonAll a_t_imageRow a_t_imageAhead a_t_imageHears x1 x2 x3 x4 :=
  t_X12_songsOf_5_n X0 hk hP hD hret  gs_fuel x3 x4 h
def f_X12_songsOf (x1 : Int32) (x2 : Int32) (v_t_songs : Int32) (r_t_rows : Nat → Int32) : Option (Int32) :=
  gs_it (fun _ _ => none) (f_X12_songsOf_5 x1 x2 v_t_songs r_t_rows) gs_fuel 0 0
set_option maxHeartbeats 4000000 in
set_option maxRecDepth 100000 in
theorem c_X12_songsOf (l : Launch) (E : gs_E) (a_t a_t_rows a_t_songLong a_t_firstNote a_t_wit a_t_code a_t_tape a_t_refused a_t_newSongLong a_t_newFirstNote a_t_newWit a_t_newRow a_t_readCode a_t_waits a_t_tested a_t_isTold a_t_ahead a_t_told a_t_pile a_t_common a_t_mostOf a_t_likes a_t_heard a_t_soon a_t_soonAll a_t_imageRow a_t_imageAhead a_t_imageHears : Nat) (v_t_thrown : Int32) (v_t_songs : Int32) (v_t_people : Int32) (v_t_forgetsAt : Int32) (v_t_fillsAt : Int32) (v_t_taped : Int32) (v_t_faultKind : Int32) (v_t_faultPlace : Int32) (v_t_long1 : Int32) (v_t_next0 : Int32) (v_t_sort : Int32) (v_t_place : Int32) (v_t_long0 : Int32) (v_t_value : Int32) (v_t_sign : Int32) (v_t_word : Int64) (v_t_newSongs : Int32) (v_t_newPeople : Int32) (v_t_newForgetsAt : Int32) (v_t_newFillsAt : Int32) (v_t_top : Int32) (v_t_firstValue : Int32) (v_t_lastValue : Int32) (v_t_waiting : Int32) (v_t_depth : Int32) (v_t_acts : Int32) (v_t_isWinter : Int32) (v_t_learntNow : Int32) (v_t_forgottenNow : Int32) (v_t_heardMany : Int32) (v_t_its0 : Int32) (v_t_hasImage : Int32) (v_t_imageActs : Int32) (v_t_imageHeard : Int32) (r_t_rows : Nat → Int32) (x1 : Int32) (x2 : Int32) (rr : Int32) (h : f_X12_songsOf x1 x2 v_t_songs r_t_rows = some rr) : gs_MR l yX12_songsOf wsX12_songsOf rm_X12_songsOf [.ref a_t, .int x1, .int x2] E (w_X12_songsOf E a_t a_t_rows a_t_songLong a_t_firstNote a_t_wit a_t_code a_t_tape a_t_refused a_t_newSongLong a_t_newFirstNote a_t_newWit a_t_newRow a_t_readCode a_t_waits a_t_tested a_t_isTold a_t_ahead a_t_told a_t_pile a_t_common a_t_mostOf a_t_likes a_t_heard a_t_soon a_t_soonAll a_t_imageRow a_t_imageAhead a_t_imageHears v_t_thrown v_t_songs v_t_people v_t_forgetsAt v_t_fillsAt v_t_taped v_t_faultKind v_t_faultPlace v_t_long1 v_t_next0 v_t_sort v_t_place v_t_long0 v_t_value v_t_sign v_t_word v_t_newSongs v_t_newPeople v_t_newForgetsAt v_t_newFillsAt v_t_top v_t_firstValue v_t_lastValue v_t_waiting v_t_depth v_t_acts v_t_isWinter v_t_learntNow v_t_forgottenNow v_t_heardMany v_t_its0 v_t_hasImage v_t_imageActs v_t_imageHeard r_t_rows) (some (.int rr)) := by
  refine Met.ofW (cc := cX12_songsOf) (maxL := 5) (ret := (some .int)) (by decide) rfl ?_
  intro p e s m args below meth c s₁ B hml hv
  obtain ⟨rfl, hP, hk, hD0⟩ := hv
  have X0 : gs_X wsX12_songsOf cX12_songsOf RX12 5 (some .int) p s m ([.ref a_t, .int x1, .int x2] : List Value).toArray meth c := gs_X.of B hml
  obtain ⟨hx, hb, -, hown, hts, hr, hlk⟩ := id X0
  have hD := hD0
  have hret : ∀ (pc : Nat) (ls : Array Slot), decode cX12_songsOf pc = .ok (.ireturn, 1) → W p l e rm_X12_songsOf s m ([.ref a_t, .int x1, .int x2] : List Value).toArray below meth c s.heap [] 0 0 (MQ below (gs_QR (some (.int rr))) ([.ref a_t, .int x1, .int x2] : List Value).toArray s 0 0 (fun _ => False)) (F0 m pc ls [.int rr]) := fun pc ls hd => W.iret hx hb hr (fun t ht hW => ⟨rfl, ht⟩) (fun q hq => by cases hq) hd
  have hl := lv_entry ([.ref a_t, .int x1, .int x2]) (n := 5) (Nat.le_of_ble_eq_true rfl)
  rw [lg_entry_eq]
  generalize (lg_sl ([.ref a_t, .int x1, .int x2]) ++ List.replicate (5 - (lg_sl ([.ref a_t, .int x1, .int x2])).length) Slot.unset).toArray = ls at hl ⊢
  have hl : lv_has ls 5 [(0, .ref a_t), (1, .int x1), (2, .int x2)] := hl
  unfold f_X12_songsOf at h
  refine lv_iconst (v := 0) hx hb dX12_songsOf_0 (by decide) ?_
  refine lv_istore_n (lv' := [(3, .int 0), (0, .ref a_t), (1, .int x1), (2, .int x2)]) hx hb dX12_songsOf_1 rfl hl (by decide) rfl (fun ls hl => ?_)
  refine lv_iconst (v := 0) hx hb dX12_songsOf_2 (by decide) ?_
  refine lv_istore (lv' := [(4, .int 0), (3, .int 0), (0, .ref a_t), (1, .int x1), (2, .int x2)]) hx hb dX12_songsOf_3 hl (by decide) rfl (fun ls hl => ?_)
  exact t_X12_songsOf_5 X0 hk hP hD hret  (h := h) _ (lv_sub hl [2, 3, 4, 1, 0] rfl)

set_option maxRecDepth 100000 in
theorem ggX12_person_X12_isPerson : GoodIn wsX12_person wsX12_isPerson := goodIn_r _ [8, 9, 10, 11, 12, 7, 13, 1, 30, 31, 32, 33, 34, 35, 36, 37, 38, 39, 40, 41, 42, 43, 44, 45, 46, 47, 48, 49, 50, 51, 52, 53, 54, 55, 56, 57, 58, 59, 60, 61, 62, 63, 64, 65, 66, 67, 68, 69, 70, 71, 72, 73, 74, 75, 76, 77, 78, 79, 80, 81, 82, 83, 84, 85, 86, 87, 88, 89, 90] rfl (by decide +kernel)
set_option maxRecDepth 100000 in
theorem gX12_person_X12_isPerson : GoodIn wsX12_person (wsV RX12 387 RX12 yX12_isPerson wsX12_isPerson) := goodIn_app (goodIn_of _ (by decide +kernel)) ggX12_person_X12_isPerson
set_option maxRecDepth 100000 in
theorem ggX12_person_X12_isWhat : GoodIn wsX12_person wsX12_isWhat := goodIn_r _ [17, 18, 19, 7, 20, 10, 11, 12, 13, 1, 30, 31, 32, 33, 34, 35, 36, 37, 38, 39, 40, 41, 42, 43, 44, 45, 46, 47, 48, 49, 50, 51, 52, 53, 54, 55, 56, 57, 58, 59, 60, 61, 62, 63, 64, 65, 66, 67, 68, 69, 70, 71, 72, 73, 74, 75, 76, 77, 78, 79, 80, 81, 82, 83, 84, 85, 86, 87, 88, 89, 90] rfl (by decide +kernel)
set_option maxRecDepth 100000 in
theorem gX12_person_X12_isWhat : GoodIn wsX12_person (wsV RX12 377 RX12 yX12_isWhat wsX12_isWhat) := goodIn_app (goodIn_of _ (by decide +kernel)) ggX12_person_X12_isWhat
set_option maxRecDepth 100000 in
theorem ggX12_person_X12_songsOf : GoodIn wsX12_person wsX12_songsOf := goodIn_r _ [24, 25, 26, 27, 28, 7, 29, 2, 30, 31, 32, 33, 34, 35, 36, 37, 38, 39, 40, 41, 42, 43, 44, 45, 46, 47, 48, 49, 50, 51, 52, 53, 54, 55, 56, 57, 58, 59, 60, 61, 62, 63, 64, 65, 66, 67, 68, 69, 70, 71, 72, 73, 74, 75, 76, 77, 78, 79, 80, 81, 82, 83, 84, 85, 86, 87, 88, 89, 90] rfl (by decide +kernel)
set_option maxRecDepth 100000 in
theorem gX12_person_X12_songsOf : GoodIn wsX12_person (wsV RX12 390 RX12 yX12_songsOf wsX12_songsOf) := goodIn_app (goodIn_of _ (by decide +kernel)) ggX12_person_X12_songsOf
theorem dX12_person_0 : decode cX12_person 0 = .ok (.aload_n 0, 1) := by decide +kernel
theorem dX12_person_1 : decode cX12_person 1 = .ok (.iconst 0, 1) := by decide +kernel
theorem dX12_person_2 : decode cX12_person 2 = .ok (.putfield 102, 3) := by decide +kernel
theorem dX12_person_5 : decode cX12_person 5 = .ok (.aload_n 0, 1) := by decide +kernel
theorem dX12_person_6 : decode cX12_person 6 = .ok (.iload_n 1, 1) := by decide +kernel
theorem dX12_person_7 : decode cX12_person 7 = .ok (.invokevirtual 387, 3) := by decide +kernel
theorem dX12_person_10 : decode cX12_person 10 = .ok (.ifCond .eq 12, 3) := by decide +kernel
theorem dX12_person_13 : decode cX12_person 13 = .ok (.aload_n 0, 1) := by decide +kernel
theorem dX12_person_14 : decode cX12_person 14 = .ok (.iload_n 2, 1) := by decide +kernel
theorem dX12_person_15 : decode cX12_person 15 = .ok (.iconst 4, 1) := by decide +kernel
theorem dX12_person_16 : decode cX12_person 16 = .ok (.invokevirtual 377, 3) := by decide +kernel
theorem dX12_person_19 : decode cX12_person 19 = .ok (.ifCond .ne 5, 3) := by decide +kernel
theorem dX12_person_22 : decode cX12_person 22 = .ok (.iconst 0, 1) := by decide +kernel
theorem dX12_person_23 : decode cX12_person 23 = .ok (.ireturn, 1) := by decide +kernel
theorem dX12_person_24 : decode cX12_person 24 = .ok (.iload_n 2, 1) := by decide +kernel
theorem dX12_person_25 : decode cX12_person 25 = .ok (.tableswitch 67 0 3 #[31, 42, 49, 56], 31) := by decide +kernel
theorem dX12_person_56 : decode cX12_person 56 = .ok (.aload_n 0, 1) := by decide +kernel
theorem dX12_person_57 : decode cX12_person 57 = .ok (.getfield 63, 3) := by decide +kernel
theorem dX12_person_60 : decode cX12_person 60 = .ok (.sipush 365, 3) := by decide +kernel
theorem dX12_person_63 : decode cX12_person 63 = .ok (.iload_n 1, 1) := by decide +kernel
theorem dX12_person_64 : decode cX12_person 64 = .ok (.iadd, 1) := by decide +kernel
theorem dX12_person_65 : decode cX12_person 65 = .ok (.iaload, 1) := by decide +kernel
theorem dX12_person_66 : decode cX12_person 66 = .ok (.ireturn, 1) := by decide +kernel
theorem dX12_person_67 : decode cX12_person 67 = .ok (.aload_n 0, 1) := by decide +kernel
theorem dX12_person_68 : decode cX12_person 68 = .ok (.getfield 23, 3) := by decide +kernel
theorem dX12_person_71 : decode cX12_person 71 = .ok (.iload_n 1, 1) := by decide +kernel
theorem dX12_person_72 : decode cX12_person 72 = .ok (.iaload, 1) := by decide +kernel
theorem dX12_person_73 : decode cX12_person 73 = .ok (.ireturn, 1) := by decide +kernel
theorem dX12_person_74 : decode cX12_person 74 = .ok (.aload_n 0, 1) := by decide +kernel
theorem dX12_person_75 : decode cX12_person 75 = .ok (.iconst 0, 1) := by decide +kernel
theorem dX12_person_76 : decode cX12_person 76 = .ok (.iload_n 1, 1) := by decide +kernel
theorem dX12_person_77 : decode cX12_person 77 = .ok (.invokevirtual 390, 3) := by decide +kernel
theorem dX12_person_80 : decode cX12_person 80 = .ok (.ireturn, 1) := by decide +kernel
theorem dX12_person_81 : decode cX12_person 81 = .ok (.aload_n 0, 1) := by decide +kernel
theorem dX12_person_82 : decode cX12_person 82 = .ok (.getfield 63, 3) := by decide +kernel
theorem dX12_person_85 : decode cX12_person 85 = .ok (.sipush 351, 3) := by decide +kernel
theorem dX12_person_88 : decode cX12_person 88 = .ok (.iload_n 1, 1) := by decide +kernel
theorem dX12_person_89 : decode cX12_person 89 = .ok (.iadd, 1) := by decide +kernel
theorem dX12_person_90 : decode cX12_person 90 = .ok (.iaload, 1) := by decide +kernel
theorem dX12_person_91 : decode cX12_person 91 = .ok (.ireturn, 1) := by decide +kernel
theorem dX12_person_92 : decode cX12_person 92 = .ok (.aload_n 0, 1) := by decide +kernel
theorem dX12_person_93 : decode cX12_person 93 = .ok (.getfield 63, 3) := by decide +kernel
theorem dX12_person_96 : decode cX12_person 96 = .ok (.sipush 358, 3) := by decide +kernel
theorem dX12_person_99 : decode cX12_person 99 = .ok (.iload_n 1, 1) := by decide +kernel
theorem dX12_person_100 : decode cX12_person 100 = .ok (.iadd, 1) := by decide +kernel
theorem dX12_person_101 : decode cX12_person 101 = .ok (.iaload, 1) := by decide +kernel
theorem dX12_person_102 : decode cX12_person 102 = .ok (.ireturn, 1) := by decide +kernel
abbrev w_X12_person (E : gs_E) (a_t a_t_wit a_t_rows a_t_songLong a_t_firstNote a_t_code a_t_tape a_t_refused a_t_newSongLong a_t_newFirstNote a_t_newWit a_t_newRow a_t_readCode a_t_waits a_t_tested a_t_isTold a_t_ahead a_t_told a_t_pile a_t_common a_t_mostOf a_t_likes a_t_heard a_t_soon a_t_soonAll a_t_imageRow a_t_imageAhead a_t_imageHears : Nat) (v_t_thrown : Int32) (v_t_songs : Int32) (v_t_people : Int32) (v_t_forgetsAt : Int32) (v_t_fillsAt : Int32) (v_t_taped : Int32) (v_t_faultKind : Int32) (v_t_faultPlace : Int32) (v_t_long1 : Int32) (v_t_next0 : Int32) (v_t_sort : Int32) (v_t_place : Int32) (v_t_long0 : Int32) (v_t_value : Int32) (v_t_sign : Int32) (v_t_word : Int64) (v_t_newSongs : Int32) (v_t_newPeople : Int32) (v_t_newForgetsAt : Int32) (v_t_newFillsAt : Int32) (v_t_top : Int32) (v_t_firstValue : Int32) (v_t_lastValue : Int32) (v_t_waiting : Int32) (v_t_depth : Int32) (v_t_acts : Int32) (v_t_isWinter : Int32) (v_t_learntNow : Int32) (v_t_forgottenNow : Int32) (v_t_heardMany : Int32) (v_t_its0 : Int32) (v_t_hasImage : Int32) (v_t_imageActs : Int32) (v_t_imageHeard : Int32) (r_t_wit : Nat → Int32) (r_t_rows : Nat → Int32) : va_W := [(a_t, .inr (12, [.int v_t_thrown, .int v_t_songs, .int v_t_people, .int v_t_forgetsAt, .int v_t_fillsAt, .ref a_t_songLong, .ref a_t_firstNote, .ref a_t_wit, .ref a_t_code, .ref a_t_tape, .int v_t_taped, .int v_t_faultKind, .int v_t_faultPlace, .ref a_t_refused, .int v_t_long1, .int v_t_next0, .int v_t_sort, .int v_t_place, .int v_t_long0, .int v_t_value, .int v_t_sign, .long v_t_word, .int v_t_newSongs, .int v_t_newPeople, .int v_t_newForgetsAt, .int v_t_newFillsAt, .int v_t_top, .int v_t_firstValue, .int v_t_lastValue, .int v_t_waiting, .int v_t_depth, .ref a_t_newSongLong, .ref a_t_newFirstNote, .ref a_t_newWit, .ref a_t_newRow, .ref a_t_readCode, .ref a_t_waits, .ref a_t_tested, .ref a_t_isTold, .ref a_t_rows, .ref a_t_ahead, .int v_t_acts, .ref a_t_told, .ref a_t_pile, .int v_t_isWinter, .int v_t_learntNow, .int v_t_forgottenNow, .ref a_t_common, .ref a_t_mostOf, .ref a_t_likes, .int v_t_heardMany, .ref a_t_heard, .ref a_t_soon, .ref a_t_soonAll, .int v_t_its0, .int v_t_hasImage, .int v_t_imageActs, .int v_t_imageHeard, .ref a_t_imageRow, .ref a_t_imageAhead, .ref a_t_imageHears])), (a_t_wit, .inl (E.2.1, 7, .inl r_t_wit)), (a_t_rows, .inl (E.2.1, 744, .inl r_t_rows))]
abbrev rm_X12_person : Room := { frames := 2, cells := 0, slots := 0, locals := 47 }
def f_X12_person (x1 : Int32) (x2 : Int32) (v_t_thrown : Int32) (v_t_songs : Int32) (v_t_people : Int32) (r_t_wit : Nat → Int32) (r_t_rows : Nat → Int32) : Option (Int32 × Int32) :=
  gs_b2 (f_X12_isPerson x1 0 v_t_people) fun r1 o1_0 =>
  if r1 = 0 then
    some (0, o1_0)
  else
    gs_b2 (f_X12_isWhat x2 4 o1_0) fun r3 o3_0 =>
    if r3 = 0 then
      some (0, o3_0)
    else
      if x2 = 0 then
        gs_gd (gs_in (365 + x1) 744) <|
        some (r_t_rows (365 + x1).toNatClampNeg, o3_0)
      else
        if x2 = 1 then
          gs_gd (gs_in x1 7) <|
          some (r_t_wit x1.toNatClampNeg, o3_0)
        else
          if x2 = 2 then
            gs_b1 (f_X12_songsOf 0 x1 v_t_songs r_t_rows) fun r10 =>
            some (r10, o3_0)
          else
            if x2 = 3 then
              gs_gd (gs_in (351 + x1) 744) <|
              some (r_t_rows (351 + x1).toNatClampNeg, o3_0)
            else
              gs_gd (gs_in (358 + x1) 744) <|
              some (r_t_rows (358 + x1).toNatClampNeg, o3_0)
set_option maxHeartbeats 4000000 in
set_option maxRecDepth 100000 in
theorem c_X12_person (l : Launch) (E : gs_E) (a_t a_t_wit a_t_rows a_t_songLong a_t_firstNote a_t_code a_t_tape a_t_refused a_t_newSongLong a_t_newFirstNote a_t_newWit a_t_newRow a_t_readCode a_t_waits a_t_tested a_t_isTold a_t_ahead a_t_told a_t_pile a_t_common a_t_mostOf a_t_likes a_t_heard a_t_soon a_t_soonAll a_t_imageRow a_t_imageAhead a_t_imageHears : Nat) (v_t_thrown : Int32) (v_t_songs : Int32) (v_t_people : Int32) (v_t_forgetsAt : Int32) (v_t_fillsAt : Int32) (v_t_taped : Int32) (v_t_faultKind : Int32) (v_t_faultPlace : Int32) (v_t_long1 : Int32) (v_t_next0 : Int32) (v_t_sort : Int32) (v_t_place : Int32) (v_t_long0 : Int32) (v_t_value : Int32) (v_t_sign : Int32) (v_t_word : Int64) (v_t_newSongs : Int32) (v_t_newPeople : Int32) (v_t_newForgetsAt : Int32) (v_t_newFillsAt : Int32) (v_t_top : Int32) (v_t_firstValue : Int32) (v_t_lastValue : Int32) (v_t_waiting : Int32) (v_t_depth : Int32) (v_t_acts : Int32) (v_t_isWinter : Int32) (v_t_learntNow : Int32) (v_t_forgottenNow : Int32) (v_t_heardMany : Int32) (v_t_its0 : Int32) (v_t_hasImage : Int32) (v_t_imageActs : Int32) (v_t_imageHeard : Int32) (r_t_wit : Nat → Int32) (r_t_rows : Nat → Int32) (x1 : Int32) (x2 : Int32) (rr : Int32) (o_t_thrown : Int32) (h : f_X12_person x1 x2 v_t_thrown v_t_songs v_t_people r_t_wit r_t_rows = some (rr, o_t_thrown)) : gs_MW l yX12_person wsX12_person rm_X12_person [.ref a_t, .int x1, .int x2] E (w_X12_person E a_t a_t_wit a_t_rows a_t_songLong a_t_firstNote a_t_code a_t_tape a_t_refused a_t_newSongLong a_t_newFirstNote a_t_newWit a_t_newRow a_t_readCode a_t_waits a_t_tested a_t_isTold a_t_ahead a_t_told a_t_pile a_t_common a_t_mostOf a_t_likes a_t_heard a_t_soon a_t_soonAll a_t_imageRow a_t_imageAhead a_t_imageHears v_t_thrown v_t_songs v_t_people v_t_forgetsAt v_t_fillsAt v_t_taped v_t_faultKind v_t_faultPlace v_t_long1 v_t_next0 v_t_sort v_t_place v_t_long0 v_t_value v_t_sign v_t_word v_t_newSongs v_t_newPeople v_t_newForgetsAt v_t_newFillsAt v_t_top v_t_firstValue v_t_lastValue v_t_waiting v_t_depth v_t_acts v_t_isWinter v_t_learntNow v_t_forgottenNow v_t_heardMany v_t_its0 v_t_hasImage v_t_imageActs v_t_imageHeard r_t_wit r_t_rows) (w_X12_person E a_t a_t_wit a_t_rows a_t_songLong a_t_firstNote a_t_code a_t_tape a_t_refused a_t_newSongLong a_t_newFirstNote a_t_newWit a_t_newRow a_t_readCode a_t_waits a_t_tested a_t_isTold a_t_ahead a_t_told a_t_pile a_t_common a_t_mostOf a_t_likes a_t_heard a_t_soon a_t_soonAll a_t_imageRow a_t_imageAhead a_t_imageHears o_t_thrown v_t_songs v_t_people v_t_forgetsAt v_t_fillsAt v_t_taped v_t_faultKind v_t_faultPlace v_t_long1 v_t_next0 v_t_sort v_t_place v_t_long0 v_t_value v_t_sign v_t_word v_t_newSongs v_t_newPeople v_t_newForgetsAt v_t_newFillsAt v_t_top v_t_firstValue v_t_lastValue v_t_waiting v_t_depth v_t_acts v_t_isWinter v_t_learntNow v_t_forgottenNow v_t_heardMany v_t_its0 v_t_hasImage v_t_imageActs v_t_imageHeard r_t_wit r_t_rows) (some (.int rr)) := by
  refine Met.ofW (cc := cX12_person) (maxL := 3) (ret := (some .int)) (by decide) rfl ?_
  intro p e s m args below meth c s₁ B hml hv
  obtain ⟨rfl, hP, hk, hD0⟩ := hv
  have X0 : gs_X wsX12_person cX12_person RX12 3 (some .int) p s m ([.ref a_t, .int x1, .int x2] : List Value).toArray meth c := gs_X.of B hml
  obtain ⟨hx, hb, -, hown, hts, hr, hlk⟩ := id X0
  have hD := (gs_D_self hD0)
  generalize hAe : gs_w (w_X12_person E a_t a_t_wit a_t_rows a_t_songLong a_t_firstNote a_t_code a_t_tape a_t_refused a_t_newSongLong a_t_newFirstNote a_t_newWit a_t_newRow a_t_readCode a_t_waits a_t_tested a_t_isTold a_t_ahead a_t_told a_t_pile a_t_common a_t_mostOf a_t_likes a_t_heard a_t_soon a_t_soonAll a_t_imageRow a_t_imageAhead a_t_imageHears v_t_thrown v_t_songs v_t_people v_t_forgetsAt v_t_fillsAt v_t_taped v_t_faultKind v_t_faultPlace v_t_long1 v_t_next0 v_t_sort v_t_place v_t_long0 v_t_value v_t_sign v_t_word v_t_newSongs v_t_newPeople v_t_newForgetsAt v_t_newFillsAt v_t_top v_t_firstValue v_t_lastValue v_t_waiting v_t_depth v_t_acts v_t_isWinter v_t_learntNow v_t_forgottenNow v_t_heardMany v_t_its0 v_t_hasImage v_t_imageActs v_t_imageHeard r_t_wit r_t_rows) = A at hD ⊢
  have hS : va_S A s.heap s.heap [] := va_S.rf
  have hret : ∀ (H : Heap) (locs : List Loc) (pc : Nat) (ls : Array Slot), va_P E.1 vwCl (w_X12_person E a_t a_t_wit a_t_rows a_t_songLong a_t_firstNote a_t_code a_t_tape a_t_refused a_t_newSongLong a_t_newFirstNote a_t_newWit a_t_newRow a_t_readCode a_t_waits a_t_tested a_t_isTold a_t_ahead a_t_told a_t_pile a_t_common a_t_mostOf a_t_likes a_t_heard a_t_soon a_t_soonAll a_t_imageRow a_t_imageAhead a_t_imageHears o_t_thrown v_t_songs v_t_people v_t_forgetsAt v_t_fillsAt v_t_taped v_t_faultKind v_t_faultPlace v_t_long1 v_t_next0 v_t_sort v_t_place v_t_long0 v_t_value v_t_sign v_t_word v_t_newSongs v_t_newPeople v_t_newForgetsAt v_t_newFillsAt v_t_top v_t_firstValue v_t_lastValue v_t_waiting v_t_depth v_t_acts v_t_isWinter v_t_learntNow v_t_forgottenNow v_t_heardMany v_t_its0 v_t_hasImage v_t_imageActs v_t_imageHeard r_t_wit r_t_rows) H → va_S A s.heap H locs → decode cX12_person pc = .ok (.ireturn, 1) → W p l e rm_X12_person s m ([.ref a_t, .int x1, .int x2] : List Value).toArray below meth c H locs 0 0 (MQ below (gs_QWA E A (w_X12_person E a_t a_t_wit a_t_rows a_t_songLong a_t_firstNote a_t_code a_t_tape a_t_refused a_t_newSongLong a_t_newFirstNote a_t_newWit a_t_newRow a_t_readCode a_t_waits a_t_tested a_t_isTold a_t_ahead a_t_told a_t_pile a_t_common a_t_mostOf a_t_likes a_t_heard a_t_soon a_t_soonAll a_t_imageRow a_t_imageAhead a_t_imageHears o_t_thrown v_t_songs v_t_people v_t_forgetsAt v_t_fillsAt v_t_taped v_t_faultKind v_t_faultPlace v_t_long1 v_t_next0 v_t_sort v_t_place v_t_long0 v_t_value v_t_sign v_t_word v_t_newSongs v_t_newPeople v_t_newForgetsAt v_t_newFillsAt v_t_top v_t_firstValue v_t_lastValue v_t_waiting v_t_depth v_t_acts v_t_isWinter v_t_learntNow v_t_forgottenNow v_t_heardMany v_t_its0 v_t_hasImage v_t_imageActs v_t_imageHeard r_t_wit r_t_rows) (some (.int rr))) ([.ref a_t, .int x1, .int x2] : List Value).toArray s 0 0 A) (F0 m pc ls [.int rr]) := fun H locs pc ls hP hS hd => W.iret hx hb hr (fun t ht hW => ⟨rfl, by rw [ht]; exact hP, hS.F ht⟩) hS.2.2 hd
  have hl := lv_entry ([.ref a_t, .int x1, .int x2]) (n := 3) (Nat.le_of_ble_eq_true rfl)
  rw [lg_entry_eq]
  generalize (lg_sl ([.ref a_t, .int x1, .int x2]) ++ List.replicate (3 - (lg_sl ([.ref a_t, .int x1, .int x2])).length) Slot.unset).toArray = ls at hl ⊢
  have hl : lv_has ls 3 [(0, .ref a_t), (1, .int x1), (2, .int x2)] := hl
  unfold f_X12_person at h
  refine lv_aload_n hx hb dX12_person_0 rfl (lv_at hl 0 rfl) ?_
  refine lv_iconst (v := 0) hx hb dX12_person_1 (by decide) ?_
  refine va_put (D := E.1) (ci := 12) (v := .int 0) (ty := .int) (C := RX12) (T := TX12) (N := 61) hx hb hts (fun _ h => (List.mem_cons_of_mem _ (List.mem_append_right _ h))) tyX12 tyX12_ok nmX12 hown hk.1 hP hD hS 0 rfl rfl 0 (by decide) (hts (.fieldLink RX12 102 "GapSongsModel" "thrown" "I") (List.mem_cons_of_mem _ (List.mem_append_left _ (List.mem_append_left _ (List.mem_of_getElem? (i := 0) rfl))))) (fun _ h9 => h9) rfl (by decide +kernel) rfl rfl (Nat.le_of_ble_eq_true rfl) dX12_person_2 (fun H locs hP hD hS => ?_)
  have hP : va_P E.1 vwCl (w_X12_person E a_t a_t_wit a_t_rows a_t_songLong a_t_firstNote a_t_code a_t_tape a_t_refused a_t_newSongLong a_t_newFirstNote a_t_newWit a_t_newRow a_t_readCode a_t_waits a_t_tested a_t_isTold a_t_ahead a_t_told a_t_pile a_t_common a_t_mostOf a_t_likes a_t_heard a_t_soon a_t_soonAll a_t_imageRow a_t_imageAhead a_t_imageHears 0 v_t_songs v_t_people v_t_forgetsAt v_t_fillsAt v_t_taped v_t_faultKind v_t_faultPlace v_t_long1 v_t_next0 v_t_sort v_t_place v_t_long0 v_t_value v_t_sign v_t_word v_t_newSongs v_t_newPeople v_t_newForgetsAt v_t_newFillsAt v_t_top v_t_firstValue v_t_lastValue v_t_waiting v_t_depth v_t_acts v_t_isWinter v_t_learntNow v_t_forgottenNow v_t_heardMany v_t_its0 v_t_hasImage v_t_imageActs v_t_imageHeard r_t_wit r_t_rows) H := hP
  have hD : va_D A (w_X12_person E a_t a_t_wit a_t_rows a_t_songLong a_t_firstNote a_t_code a_t_tape a_t_refused a_t_newSongLong a_t_newFirstNote a_t_newWit a_t_newRow a_t_readCode a_t_waits a_t_tested a_t_isTold a_t_ahead a_t_told a_t_pile a_t_common a_t_mostOf a_t_likes a_t_heard a_t_soon a_t_soonAll a_t_imageRow a_t_imageAhead a_t_imageHears 0 v_t_songs v_t_people v_t_forgetsAt v_t_fillsAt v_t_taped v_t_faultKind v_t_faultPlace v_t_long1 v_t_next0 v_t_sort v_t_place v_t_long0 v_t_value v_t_sign v_t_word v_t_newSongs v_t_newPeople v_t_newForgetsAt v_t_newFillsAt v_t_top v_t_firstValue v_t_lastValue v_t_waiting v_t_depth v_t_acts v_t_isWinter v_t_learntNow v_t_forgottenNow v_t_heardMany v_t_its0 v_t_hasImage v_t_imageActs v_t_imageHeard r_t_wit r_t_rows) := hD
  refine lv_aload_n hx hb dX12_person_5 rfl (lv_at hl 0 rfl) ?_
  refine lv_iload_n hx hb dX12_person_6 rfl (lv_at hl 1 rfl) ?_
  obtain ⟨r1, o1_0, hz1, h⟩ := gs_b2_e h
  refine gs_backWi (ws1 := (w_X12_person E a_t a_t_wit a_t_rows a_t_songLong a_t_firstNote a_t_code a_t_tape a_t_refused a_t_newSongLong a_t_newFirstNote a_t_newWit a_t_newRow a_t_readCode a_t_waits a_t_tested a_t_isTold a_t_ahead a_t_told a_t_pile a_t_common a_t_mostOf a_t_likes a_t_heard a_t_soon a_t_soonAll a_t_imageRow a_t_imageAhead a_t_imageHears o1_0 v_t_songs v_t_people v_t_forgetsAt v_t_fillsAt v_t_taped v_t_faultKind v_t_faultPlace v_t_long1 v_t_next0 v_t_sort v_t_place v_t_long0 v_t_value v_t_sign v_t_word v_t_newSongs v_t_newPeople v_t_newForgetsAt v_t_newFillsAt v_t_top v_t_firstValue v_t_lastValue v_t_waiting v_t_depth v_t_acts v_t_isWinter v_t_learntNow v_t_forgottenNow v_t_heardMany v_t_its0 v_t_hasImage v_t_imageActs v_t_imageHeard r_t_wit r_t_rows)) (va_runV (As := [.int x1]) (rest := []) ⟨hx, hb, hml, hown, hts⟩ (c_X12_isPerson l E a_t a_t_songLong a_t_firstNote a_t_wit a_t_code a_t_tape a_t_refused a_t_newSongLong a_t_newFirstNote a_t_newWit a_t_newRow a_t_readCode a_t_waits a_t_tested a_t_isTold a_t_rows a_t_ahead a_t_told a_t_pile a_t_common a_t_mostOf a_t_likes a_t_heard a_t_soon a_t_soonAll a_t_imageRow a_t_imageAhead a_t_imageHears 0 v_t_songs v_t_people v_t_forgetsAt v_t_fillsAt v_t_taped v_t_faultKind v_t_faultPlace v_t_long1 v_t_next0 v_t_sort v_t_place v_t_long0 v_t_value v_t_sign v_t_word v_t_newSongs v_t_newPeople v_t_newForgetsAt v_t_newFillsAt v_t_top v_t_firstValue v_t_lastValue v_t_waiting v_t_depth v_t_acts v_t_isWinter v_t_learntNow v_t_forgottenNow v_t_heardMany v_t_its0 v_t_hasImage v_t_imageActs v_t_imageHeard x1 r1 o1_0 hz1) (cwV 1 hts gX12_person_X12_isPerson rfl rfl rfl (by decide +kernel) ⟨Nat.le_of_ble_eq_true rfl, Nat.le_of_ble_eq_true rfl⟩) (gs_preV (ci := 12) hk hP hD (is := [0]) rfl rfl rfl rfl) rfl rfl hl.1 rfl (lv_room (Nat.le_of_ble_eq_true rfl)) dX12_person_7 ⟨Nat.zero_le _, Nat.zero_le _⟩) hP hD hS [0] rfl rfl rfl rfl (fun H locs hP hD hS => ?_)
  refine lv_if_eq (tgt := 22) hx hb dX12_person_10 (by decide) (fun c2 => ?_) (fun c2 => ?_)
  · replace h := gs_ift c2 h
    refine lv_iconst (v := 0) hx hb dX12_person_22 (by decide) ?_
    have h := Option.some.inj h
    obtain ⟨w0, h⟩ := Prod.mk.inj h
    subst h
    subst w0
    exact hret _ _ _ _ hP hS dX12_person_23
  · replace h := gs_iff c2 h
    refine lv_aload_n hx hb dX12_person_13 rfl (lv_at hl 0 rfl) ?_
    refine lv_iload_n hx hb dX12_person_14 rfl (lv_at hl 2 rfl) ?_
    refine lv_iconst (v := 4) hx hb dX12_person_15 (by decide) ?_
    obtain ⟨r3, o3_0, hz3, h⟩ := gs_b2_e h
    refine gs_backWi (ws1 := (w_X12_person E a_t a_t_wit a_t_rows a_t_songLong a_t_firstNote a_t_code a_t_tape a_t_refused a_t_newSongLong a_t_newFirstNote a_t_newWit a_t_newRow a_t_readCode a_t_waits a_t_tested a_t_isTold a_t_ahead a_t_told a_t_pile a_t_common a_t_mostOf a_t_likes a_t_heard a_t_soon a_t_soonAll a_t_imageRow a_t_imageAhead a_t_imageHears o3_0 v_t_songs v_t_people v_t_forgetsAt v_t_fillsAt v_t_taped v_t_faultKind v_t_faultPlace v_t_long1 v_t_next0 v_t_sort v_t_place v_t_long0 v_t_value v_t_sign v_t_word v_t_newSongs v_t_newPeople v_t_newForgetsAt v_t_newFillsAt v_t_top v_t_firstValue v_t_lastValue v_t_waiting v_t_depth v_t_acts v_t_isWinter v_t_learntNow v_t_forgottenNow v_t_heardMany v_t_its0 v_t_hasImage v_t_imageActs v_t_imageHeard r_t_wit r_t_rows)) (va_runV (As := [.int x2, .int 4]) (rest := []) ⟨hx, hb, hml, hown, hts⟩ (c_X12_isWhat l E a_t a_t_songLong a_t_firstNote a_t_wit a_t_code a_t_tape a_t_refused a_t_newSongLong a_t_newFirstNote a_t_newWit a_t_newRow a_t_readCode a_t_waits a_t_tested a_t_isTold a_t_rows a_t_ahead a_t_told a_t_pile a_t_common a_t_mostOf a_t_likes a_t_heard a_t_soon a_t_soonAll a_t_imageRow a_t_imageAhead a_t_imageHears o1_0 v_t_songs v_t_people v_t_forgetsAt v_t_fillsAt v_t_taped v_t_faultKind v_t_faultPlace v_t_long1 v_t_next0 v_t_sort v_t_place v_t_long0 v_t_value v_t_sign v_t_word v_t_newSongs v_t_newPeople v_t_newForgetsAt v_t_newFillsAt v_t_top v_t_firstValue v_t_lastValue v_t_waiting v_t_depth v_t_acts v_t_isWinter v_t_learntNow v_t_forgottenNow v_t_heardMany v_t_its0 v_t_hasImage v_t_imageActs v_t_imageHeard x2 4 r3 o3_0 hz3) (cwV 2 hts gX12_person_X12_isWhat rfl rfl rfl (by decide +kernel) ⟨Nat.le_of_ble_eq_true rfl, Nat.le_of_ble_eq_true rfl⟩) (gs_preV (ci := 12) hk hP hD (is := [0]) rfl rfl rfl rfl) rfl rfl hl.1 rfl (lv_room (Nat.le_of_ble_eq_true rfl)) dX12_person_16 ⟨Nat.zero_le _, Nat.zero_le _⟩) hP hD hS [0] rfl rfl rfl rfl (fun H locs hP hD hS => ?_)
    refine lv_if_ne (tgt := 24) hx hb dX12_person_19 (by decide) (fun c4 => ?_) (fun c4 => ?_)
    · replace h := gs_iff c4 h
      refine lv_iload_n hx hb dX12_person_24 rfl (lv_at hl 2 rfl) ?_
      by_cases c5 : x2 = 0
      · replace h := gs_ift c5 h
        refine lv_tableIn (off := 31) (tgt := 56) hx hb dX12_person_25 (by rw [c5]; decide) (by rw [c5]; decide) (by rw [c5]; decide) (by decide) ?_
        refine lv_aload_n hx hb dX12_person_56 rfl (lv_at hl 0 rfl) ?_
        refine va_get (D := E.1) (ci := 12) (v := .ref a_t_rows) (C := RX12) (T := TX12) (N := 61) hx hb hts (fun _ h => (List.mem_cons_of_mem _ (List.mem_append_right _ h))) hown hk.1 hP 0 rfl rfl 39 (by decide) (hts (.fieldLink RX12 63 "GapSongsModel" "rows" "[I") (List.mem_cons_of_mem _ (List.mem_append_left _ (List.mem_append_left _ (List.mem_of_getElem? (i := 1) rfl))))) (fun _ h9 => h9) rfl dX12_person_57 ?_
        refine lv_sipush (v := 365) hx hb dX12_person_60 (by decide) ?_
        refine lv_iload_n hx hb dX12_person_63 rfl (lv_at hl 1 rfl) ?_
        refine lv_iadd hx hb dX12_person_64 ?_
        obtain ⟨g6, h⟩ := gs_gd_e h
        refine va_iald hx hb hk.1 hP 2 0 rfl rfl (gs_in_e g6) dX12_person_65 ?_
        have h := Option.some.inj h
        obtain ⟨w0, h⟩ := Prod.mk.inj h
        subst h
        subst w0
        exact hret _ _ _ _ hP hS dX12_person_66
      replace h := gs_iff c5 h
      by_cases c7 : x2 = 1
      · replace h := gs_ift c7 h
        refine lv_tableIn (off := 42) (tgt := 67) hx hb dX12_person_25 (by rw [c7]; decide) (by rw [c7]; decide) (by rw [c7]; decide) (by decide) ?_
        refine lv_aload_n hx hb dX12_person_67 rfl (lv_at hl 0 rfl) ?_
        refine va_get (D := E.1) (ci := 12) (v := .ref a_t_wit) (C := RX12) (T := TX12) (N := 61) hx hb hts (fun _ h => (List.mem_cons_of_mem _ (List.mem_append_right _ h))) hown hk.1 hP 0 rfl rfl 7 (by decide) (hts (.fieldLink RX12 23 "GapSongsModel" "wit" "[I") (List.mem_cons_of_mem _ (List.mem_append_left _ (List.mem_append_left _ (List.mem_of_getElem? (i := 2) rfl))))) (fun _ h9 => h9) rfl dX12_person_68 ?_
        refine lv_iload_n hx hb dX12_person_71 rfl (lv_at hl 1 rfl) ?_
        obtain ⟨g8, h⟩ := gs_gd_e h
        refine va_iald hx hb hk.1 hP 1 0 rfl rfl (gs_in_e g8) dX12_person_72 ?_
        have h := Option.some.inj h
        obtain ⟨w0, h⟩ := Prod.mk.inj h
        subst h
        subst w0
        exact hret _ _ _ _ hP hS dX12_person_73
      replace h := gs_iff c7 h
      by_cases c9 : x2 = 2
      · replace h := gs_ift c9 h
        refine lv_tableIn (off := 49) (tgt := 74) hx hb dX12_person_25 (by rw [c9]; decide) (by rw [c9]; decide) (by rw [c9]; decide) (by decide) ?_
        refine lv_aload_n hx hb dX12_person_74 rfl (lv_at hl 0 rfl) ?_
        refine lv_iconst (v := 0) hx hb dX12_person_75 (by decide) ?_
        refine lv_iload_n hx hb dX12_person_76 rfl (lv_at hl 1 rfl) ?_
        obtain ⟨r10, hz10, h⟩ := gs_b1_e h
        refine gs_backRi (va_runV (As := [.int 0, .int x1]) (rest := []) ⟨hx, hb, hml, hown, hts⟩ (c_X12_songsOf l E a_t a_t_rows a_t_songLong a_t_firstNote a_t_wit a_t_code a_t_tape a_t_refused a_t_newSongLong a_t_newFirstNote a_t_newWit a_t_newRow a_t_readCode a_t_waits a_t_tested a_t_isTold a_t_ahead a_t_told a_t_pile a_t_common a_t_mostOf a_t_likes a_t_heard a_t_soon a_t_soonAll a_t_imageRow a_t_imageAhead a_t_imageHears o3_0 v_t_songs v_t_people v_t_forgetsAt v_t_fillsAt v_t_taped v_t_faultKind v_t_faultPlace v_t_long1 v_t_next0 v_t_sort v_t_place v_t_long0 v_t_value v_t_sign v_t_word v_t_newSongs v_t_newPeople v_t_newForgetsAt v_t_newFillsAt v_t_top v_t_firstValue v_t_lastValue v_t_waiting v_t_depth v_t_acts v_t_isWinter v_t_learntNow v_t_forgottenNow v_t_heardMany v_t_its0 v_t_hasImage v_t_imageActs v_t_imageHeard r_t_rows 0 x1 r10 hz10) (cwV 2 hts gX12_person_X12_songsOf rfl rfl rfl (by decide +kernel) ⟨Nat.le_of_ble_eq_true rfl, Nat.le_of_ble_eq_true rfl⟩) (gs_preV (ci := 12) hk hP hD (is := [0, 2]) rfl rfl rfl rfl) rfl rfl hl.1 rfl (lv_room (Nat.le_of_ble_eq_true rfl)) dX12_person_77 ⟨Nat.zero_le _, Nat.zero_le _⟩) ?_
        have h := Option.some.inj h
        obtain ⟨w0, h⟩ := Prod.mk.inj h
        subst h
        subst w0
        exact hret _ _ _ _ hP hS dX12_person_80
      replace h := gs_iff c9 h
      by_cases c11 : x2 = 3
      · replace h := gs_ift c11 h
        refine lv_tableIn (off := 56) (tgt := 81) hx hb dX12_person_25 (by rw [c11]; decide) (by rw [c11]; decide) (by rw [c11]; decide) (by decide) ?_
        refine lv_aload_n hx hb dX12_person_81 rfl (lv_at hl 0 rfl) ?_
        refine va_get (D := E.1) (ci := 12) (v := .ref a_t_rows) (C := RX12) (T := TX12) (N := 61) hx hb hts (fun _ h => (List.mem_cons_of_mem _ (List.mem_append_right _ h))) hown hk.1 hP 0 rfl rfl 39 (by decide) (hts (.fieldLink RX12 63 "GapSongsModel" "rows" "[I") (List.mem_cons_of_mem _ (List.mem_append_left _ (List.mem_append_left _ (List.mem_of_getElem? (i := 1) rfl))))) (fun _ h9 => h9) rfl dX12_person_82 ?_
        refine lv_sipush (v := 351) hx hb dX12_person_85 (by decide) ?_
        refine lv_iload_n hx hb dX12_person_88 rfl (lv_at hl 1 rfl) ?_
        refine lv_iadd hx hb dX12_person_89 ?_
        obtain ⟨g12, h⟩ := gs_gd_e h
        refine va_iald hx hb hk.1 hP 2 0 rfl rfl (gs_in_e g12) dX12_person_90 ?_
        have h := Option.some.inj h
        obtain ⟨w0, h⟩ := Prod.mk.inj h
        subst h
        subst w0
        exact hret _ _ _ _ hP hS dX12_person_91
      replace h := gs_iff c11 h
      refine lv_tableOut (tgt := 92) hx hb dX12_person_25 (by have e0 := lv_neT c5 (a := 0) (by decide); have e1 := lv_neT c7 (a := 1) (by decide); have e2 := lv_neT c9 (a := 2) (by decide); have e3 := lv_neT c11 (a := 3) (by decide); omega) (by decide) ?_
      refine lv_aload_n hx hb dX12_person_92 rfl (lv_at hl 0 rfl) ?_
      refine va_get (D := E.1) (ci := 12) (v := .ref a_t_rows) (C := RX12) (T := TX12) (N := 61) hx hb hts (fun _ h => (List.mem_cons_of_mem _ (List.mem_append_right _ h))) hown hk.1 hP 0 rfl rfl 39 (by decide) (hts (.fieldLink RX12 63 "GapSongsModel" "rows" "[I") (List.mem_cons_of_mem _ (List.mem_append_left _ (List.mem_append_left _ (List.mem_of_getElem? (i := 1) rfl))))) (fun _ h9 => h9) rfl dX12_person_93 ?_
      refine lv_sipush (v := 358) hx hb dX12_person_96 (by decide) ?_
      refine lv_iload_n hx hb dX12_person_99 rfl (lv_at hl 1 rfl) ?_
      refine lv_iadd hx hb dX12_person_100 ?_
      obtain ⟨g13, h⟩ := gs_gd_e h
      refine va_iald hx hb hk.1 hP 2 0 rfl rfl (gs_in_e g13) dX12_person_101 ?_
      have h := Option.some.inj h
      obtain ⟨w0, h⟩ := Prod.mk.inj h
      subst h
      subst w0
      exact hret _ _ _ _ hP hS dX12_person_102
    · replace h := gs_ift c4 h
      refine lv_iconst (v := 0) hx hb dX12_person_22 (by decide) ?_
      have h := Option.some.inj h
      obtain ⟨w0, h⟩ := Prod.mk.inj h
      subst h
      subst w0
      exact hret _ _ _ _ hP hS dX12_person_23

set_option maxRecDepth 100000 in
theorem ggX12_first_X12_isSong : GoodIn wsX12_first wsX12_isSong := goodIn_r _ [7, 8, 9, 10, 11, 6, 12, 1, 18, 19, 20, 21, 22, 23, 24, 25, 26, 27, 28, 29, 30, 31, 32, 33, 34, 35, 36, 37, 38, 39, 40, 41, 42, 43, 44, 45, 46, 47, 48, 49, 50, 51, 52, 53, 54, 55, 56, 57, 58, 59, 60, 61, 62, 63, 64, 65, 66, 67, 68, 69, 70, 71, 72, 73, 74, 75, 76, 77, 78] rfl (by decide +kernel)
set_option maxRecDepth 100000 in
theorem gX12_first_X12_isSong : GoodIn wsX12_first (wsV RX12 374 RX12 yX12_isSong wsX12_isSong) := goodIn_app (goodIn_of _ (by decide +kernel)) ggX12_first_X12_isSong
set_option maxRecDepth 100000 in
theorem ggX12_first_X12_isPlace : GoodIn wsX12_first wsX12_isPlace := goodIn_r _ [16, 17, 9, 10, 11, 6, 12, 1, 18, 19, 20, 21, 22, 23, 24, 25, 26, 27, 28, 29, 30, 31, 32, 33, 34, 35, 36, 37, 38, 39, 40, 41, 42, 43, 44, 45, 46, 47, 48, 49, 50, 51, 52, 53, 54, 55, 56, 57, 58, 59, 60, 61, 62, 63, 64, 65, 66, 67, 68, 69, 70, 71, 72, 73, 74, 75, 76, 77, 78] rfl (by decide +kernel)
set_option maxRecDepth 100000 in
theorem gX12_first_X12_isPlace : GoodIn wsX12_first (wsV RX12 393 RX12 yX12_isPlace wsX12_isPlace) := goodIn_app (goodIn_of _ (by decide +kernel)) ggX12_first_X12_isPlace
theorem dX12_first_0 : decode cX12_first 0 = .ok (.aload_n 0, 1) := by decide +kernel
theorem dX12_first_1 : decode cX12_first 1 = .ok (.iconst 0, 1) := by decide +kernel
theorem dX12_first_2 : decode cX12_first 2 = .ok (.putfield 102, 3) := by decide +kernel
theorem dX12_first_5 : decode cX12_first 5 = .ok (.aload_n 0, 1) := by decide +kernel
theorem dX12_first_6 : decode cX12_first 6 = .ok (.iload_n 1, 1) := by decide +kernel
theorem dX12_first_7 : decode cX12_first 7 = .ok (.invokevirtual 374, 3) := by decide +kernel
theorem dX12_first_10 : decode cX12_first 10 = .ok (.ifCond .eq 26, 3) := by decide +kernel
theorem dX12_first_13 : decode cX12_first 13 = .ok (.aload_n 0, 1) := by decide +kernel
theorem dX12_first_14 : decode cX12_first 14 = .ok (.iload_n 1, 1) := by decide +kernel
theorem dX12_first_15 : decode cX12_first 15 = .ok (.iload_n 2, 1) := by decide +kernel
theorem dX12_first_16 : decode cX12_first 16 = .ok (.invokevirtual 393, 3) := by decide +kernel
theorem dX12_first_19 : decode cX12_first 19 = .ok (.ifCond .eq 17, 3) := by decide +kernel
theorem dX12_first_22 : decode cX12_first 22 = .ok (.aload_n 0, 1) := by decide +kernel
theorem dX12_first_23 : decode cX12_first 23 = .ok (.getfield 20, 3) := by decide +kernel
theorem dX12_first_26 : decode cX12_first 26 = .ok (.bipush 8, 2) := by decide +kernel
theorem dX12_first_28 : decode cX12_first 28 = .ok (.iload_n 1, 1) := by decide +kernel
theorem dX12_first_29 : decode cX12_first 29 = .ok (.imul, 1) := by decide +kernel
theorem dX12_first_30 : decode cX12_first 30 = .ok (.iload_n 2, 1) := by decide +kernel
theorem dX12_first_31 : decode cX12_first 31 = .ok (.iadd, 1) := by decide +kernel
theorem dX12_first_32 : decode cX12_first 32 = .ok (.iaload, 1) := by decide +kernel
theorem dX12_first_33 : decode cX12_first 33 = .ok (.goto 4, 3) := by decide +kernel
theorem dX12_first_36 : decode cX12_first 36 = .ok (.iconst 0, 1) := by decide +kernel
theorem dX12_first_37 : decode cX12_first 37 = .ok (.ireturn, 1) := by decide +kernel
abbrev w_X12_first (E : gs_E) (a_t a_t_songLong a_t_firstNote a_t_wit a_t_code a_t_tape a_t_refused a_t_newSongLong a_t_newFirstNote a_t_newWit a_t_newRow a_t_readCode a_t_waits a_t_tested a_t_isTold a_t_rows a_t_ahead a_t_told a_t_pile a_t_common a_t_mostOf a_t_likes a_t_heard a_t_soon a_t_soonAll a_t_imageRow a_t_imageAhead a_t_imageHears : Nat) (v_t_thrown : Int32) (v_t_songs : Int32) (v_t_people : Int32) (v_t_forgetsAt : Int32) (v_t_fillsAt : Int32) (v_t_taped : Int32) (v_t_faultKind : Int32) (v_t_faultPlace : Int32) (v_t_long1 : Int32) (v_t_next0 : Int32) (v_t_sort : Int32) (v_t_place : Int32) (v_t_long0 : Int32) (v_t_value : Int32) (v_t_sign : Int32) (v_t_word : Int64) (v_t_newSongs : Int32) (v_t_newPeople : Int32) (v_t_newForgetsAt : Int32) (v_t_newFillsAt : Int32) (v_t_top : Int32) (v_t_firstValue : Int32) (v_t_lastValue : Int32) (v_t_waiting : Int32) (v_t_depth : Int32) (v_t_acts : Int32) (v_t_isWinter : Int32) (v_t_learntNow : Int32) (v_t_forgottenNow : Int32) (v_t_heardMany : Int32) (v_t_its0 : Int32) (v_t_hasImage : Int32) (v_t_imageActs : Int32) (v_t_imageHeard : Int32) (r_t_songLong : Nat → Int32) (r_t_firstNote : Nat → Int32) : va_W := [(a_t, .inr (12, [.int v_t_thrown, .int v_t_songs, .int v_t_people, .int v_t_forgetsAt, .int v_t_fillsAt, .ref a_t_songLong, .ref a_t_firstNote, .ref a_t_wit, .ref a_t_code, .ref a_t_tape, .int v_t_taped, .int v_t_faultKind, .int v_t_faultPlace, .ref a_t_refused, .int v_t_long1, .int v_t_next0, .int v_t_sort, .int v_t_place, .int v_t_long0, .int v_t_value, .int v_t_sign, .long v_t_word, .int v_t_newSongs, .int v_t_newPeople, .int v_t_newForgetsAt, .int v_t_newFillsAt, .int v_t_top, .int v_t_firstValue, .int v_t_lastValue, .int v_t_waiting, .int v_t_depth, .ref a_t_newSongLong, .ref a_t_newFirstNote, .ref a_t_newWit, .ref a_t_newRow, .ref a_t_readCode, .ref a_t_waits, .ref a_t_tested, .ref a_t_isTold, .ref a_t_rows, .ref a_t_ahead, .int v_t_acts, .ref a_t_told, .ref a_t_pile, .int v_t_isWinter, .int v_t_learntNow, .int v_t_forgottenNow, .ref a_t_common, .ref a_t_mostOf, .ref a_t_likes, .int v_t_heardMany, .ref a_t_heard, .ref a_t_soon, .ref a_t_soonAll, .int v_t_its0, .int v_t_hasImage, .int v_t_imageActs, .int v_t_imageHeard, .ref a_t_imageRow, .ref a_t_imageAhead, .ref a_t_imageHears])), (a_t_songLong, .inl (E.2.1, 5, .inl r_t_songLong)), (a_t_firstNote, .inl (E.2.1, 40, .inl r_t_firstNote))]
abbrev rm_X12_first : Room := { frames := 2, cells := 0, slots := 0, locals := 44 }
def f_X12_first (x1 : Int32) (x2 : Int32) (v_t_thrown : Int32) (v_t_songs : Int32) (r_t_songLong : Nat → Int32) (r_t_firstNote : Nat → Int32) : Option (Int32 × Int32) :=
  gs_b2 (f_X12_isSong x1 0 v_t_songs) fun r1 o1_0 =>
  if r1 = 0 then
    some (0, o1_0)
  else
    gs_b2 (f_X12_isPlace x1 x2 o1_0 r_t_songLong) fun r3 o3_0 =>
    if r3 = 0 then
      some (0, o3_0)
    else
      gs_gd (gs_in ((8 * x1) + x2) 40) <|
      some (r_t_firstNote ((8 * x1) + x2).toNatClampNeg, o3_0)
set_option maxHeartbeats 4000000 in
set_option maxRecDepth 100000 in
theorem c_X12_first (l : Launch) (E : gs_E) (a_t a_t_songLong a_t_firstNote a_t_wit a_t_code a_t_tape a_t_refused a_t_newSongLong a_t_newFirstNote a_t_newWit a_t_newRow a_t_readCode a_t_waits a_t_tested a_t_isTold a_t_rows a_t_ahead a_t_told a_t_pile a_t_common a_t_mostOf a_t_likes a_t_heard a_t_soon a_t_soonAll a_t_imageRow a_t_imageAhead a_t_imageHears : Nat) (v_t_thrown : Int32) (v_t_songs : Int32) (v_t_people : Int32) (v_t_forgetsAt : Int32) (v_t_fillsAt : Int32) (v_t_taped : Int32) (v_t_faultKind : Int32) (v_t_faultPlace : Int32) (v_t_long1 : Int32) (v_t_next0 : Int32) (v_t_sort : Int32) (v_t_place : Int32) (v_t_long0 : Int32) (v_t_value : Int32) (v_t_sign : Int32) (v_t_word : Int64) (v_t_newSongs : Int32) (v_t_newPeople : Int32) (v_t_newForgetsAt : Int32) (v_t_newFillsAt : Int32) (v_t_top : Int32) (v_t_firstValue : Int32) (v_t_lastValue : Int32) (v_t_waiting : Int32) (v_t_depth : Int32) (v_t_acts : Int32) (v_t_isWinter : Int32) (v_t_learntNow : Int32) (v_t_forgottenNow : Int32) (v_t_heardMany : Int32) (v_t_its0 : Int32) (v_t_hasImage : Int32) (v_t_imageActs : Int32) (v_t_imageHeard : Int32) (r_t_songLong : Nat → Int32) (r_t_firstNote : Nat → Int32) (x1 : Int32) (x2 : Int32) (rr : Int32) (o_t_thrown : Int32) (h : f_X12_first x1 x2 v_t_thrown v_t_songs r_t_songLong r_t_firstNote = some (rr, o_t_thrown)) : gs_MW l yX12_first wsX12_first rm_X12_first [.ref a_t, .int x1, .int x2] E (w_X12_first E a_t a_t_songLong a_t_firstNote a_t_wit a_t_code a_t_tape a_t_refused a_t_newSongLong a_t_newFirstNote a_t_newWit a_t_newRow a_t_readCode a_t_waits a_t_tested a_t_isTold a_t_rows a_t_ahead a_t_told a_t_pile a_t_common a_t_mostOf a_t_likes a_t_heard a_t_soon a_t_soonAll a_t_imageRow a_t_imageAhead a_t_imageHears v_t_thrown v_t_songs v_t_people v_t_forgetsAt v_t_fillsAt v_t_taped v_t_faultKind v_t_faultPlace v_t_long1 v_t_next0 v_t_sort v_t_place v_t_long0 v_t_value v_t_sign v_t_word v_t_newSongs v_t_newPeople v_t_newForgetsAt v_t_newFillsAt v_t_top v_t_firstValue v_t_lastValue v_t_waiting v_t_depth v_t_acts v_t_isWinter v_t_learntNow v_t_forgottenNow v_t_heardMany v_t_its0 v_t_hasImage v_t_imageActs v_t_imageHeard r_t_songLong r_t_firstNote) (w_X12_first E a_t a_t_songLong a_t_firstNote a_t_wit a_t_code a_t_tape a_t_refused a_t_newSongLong a_t_newFirstNote a_t_newWit a_t_newRow a_t_readCode a_t_waits a_t_tested a_t_isTold a_t_rows a_t_ahead a_t_told a_t_pile a_t_common a_t_mostOf a_t_likes a_t_heard a_t_soon a_t_soonAll a_t_imageRow a_t_imageAhead a_t_imageHears o_t_thrown v_t_songs v_t_people v_t_forgetsAt v_t_fillsAt v_t_taped v_t_faultKind v_t_faultPlace v_t_long1 v_t_next0 v_t_sort v_t_place v_t_long0 v_t_value v_t_sign v_t_word v_t_newSongs v_t_newPeople v_t_newForgetsAt v_t_newFillsAt v_t_top v_t_firstValue v_t_lastValue v_t_waiting v_t_depth v_t_acts v_t_isWinter v_t_learntNow v_t_forgottenNow v_t_heardMany v_t_its0 v_t_hasImage v_t_imageActs v_t_imageHeard r_t_songLong r_t_firstNote) (some (.int rr)) := by
  refine Met.ofW (cc := cX12_first) (maxL := 3) (ret := (some .int)) (by decide) rfl ?_
  intro p e s m args below meth c s₁ B hml hv
  obtain ⟨rfl, hP, hk, hD0⟩ := hv
  have X0 : gs_X wsX12_first cX12_first RX12 3 (some .int) p s m ([.ref a_t, .int x1, .int x2] : List Value).toArray meth c := gs_X.of B hml
  obtain ⟨hx, hb, -, hown, hts, hr, hlk⟩ := id X0
  have hD := (gs_D_self hD0)
  generalize hAe : gs_w (w_X12_first E a_t a_t_songLong a_t_firstNote a_t_wit a_t_code a_t_tape a_t_refused a_t_newSongLong a_t_newFirstNote a_t_newWit a_t_newRow a_t_readCode a_t_waits a_t_tested a_t_isTold a_t_rows a_t_ahead a_t_told a_t_pile a_t_common a_t_mostOf a_t_likes a_t_heard a_t_soon a_t_soonAll a_t_imageRow a_t_imageAhead a_t_imageHears v_t_thrown v_t_songs v_t_people v_t_forgetsAt v_t_fillsAt v_t_taped v_t_faultKind v_t_faultPlace v_t_long1 v_t_next0 v_t_sort v_t_place v_t_long0 v_t_value v_t_sign v_t_word v_t_newSongs v_t_newPeople v_t_newForgetsAt v_t_newFillsAt v_t_top v_t_firstValue v_t_lastValue v_t_waiting v_t_depth v_t_acts v_t_isWinter v_t_learntNow v_t_forgottenNow v_t_heardMany v_t_its0 v_t_hasImage v_t_imageActs v_t_imageHeard r_t_songLong r_t_firstNote) = A at hD ⊢
  have hS : va_S A s.heap s.heap [] := va_S.rf
  have hret : ∀ (H : Heap) (locs : List Loc) (pc : Nat) (ls : Array Slot), va_P E.1 vwCl (w_X12_first E a_t a_t_songLong a_t_firstNote a_t_wit a_t_code a_t_tape a_t_refused a_t_newSongLong a_t_newFirstNote a_t_newWit a_t_newRow a_t_readCode a_t_waits a_t_tested a_t_isTold a_t_rows a_t_ahead a_t_told a_t_pile a_t_common a_t_mostOf a_t_likes a_t_heard a_t_soon a_t_soonAll a_t_imageRow a_t_imageAhead a_t_imageHears o_t_thrown v_t_songs v_t_people v_t_forgetsAt v_t_fillsAt v_t_taped v_t_faultKind v_t_faultPlace v_t_long1 v_t_next0 v_t_sort v_t_place v_t_long0 v_t_value v_t_sign v_t_word v_t_newSongs v_t_newPeople v_t_newForgetsAt v_t_newFillsAt v_t_top v_t_firstValue v_t_lastValue v_t_waiting v_t_depth v_t_acts v_t_isWinter v_t_learntNow v_t_forgottenNow v_t_heardMany v_t_its0 v_t_hasImage v_t_imageActs v_t_imageHeard r_t_songLong r_t_firstNote) H → va_S A s.heap H locs → decode cX12_first pc = .ok (.ireturn, 1) → W p l e rm_X12_first s m ([.ref a_t, .int x1, .int x2] : List Value).toArray below meth c H locs 0 0 (MQ below (gs_QWA E A (w_X12_first E a_t a_t_songLong a_t_firstNote a_t_wit a_t_code a_t_tape a_t_refused a_t_newSongLong a_t_newFirstNote a_t_newWit a_t_newRow a_t_readCode a_t_waits a_t_tested a_t_isTold a_t_rows a_t_ahead a_t_told a_t_pile a_t_common a_t_mostOf a_t_likes a_t_heard a_t_soon a_t_soonAll a_t_imageRow a_t_imageAhead a_t_imageHears o_t_thrown v_t_songs v_t_people v_t_forgetsAt v_t_fillsAt v_t_taped v_t_faultKind v_t_faultPlace v_t_long1 v_t_next0 v_t_sort v_t_place v_t_long0 v_t_value v_t_sign v_t_word v_t_newSongs v_t_newPeople v_t_newForgetsAt v_t_newFillsAt v_t_top v_t_firstValue v_t_lastValue v_t_waiting v_t_depth v_t_acts v_t_isWinter v_t_learntNow v_t_forgottenNow v_t_heardMany v_t_its0 v_t_hasImage v_t_imageActs v_t_imageHeard r_t_songLong r_t_firstNote) (some (.int rr))) ([.ref a_t, .int x1, .int x2] : List Value).toArray s 0 0 A) (F0 m pc ls [.int rr]) := fun H locs pc ls hP hS hd => W.iret hx hb hr (fun t ht hW => ⟨rfl, by rw [ht]; exact hP, hS.F ht⟩) hS.2.2 hd
  have hl := lv_entry ([.ref a_t, .int x1, .int x2]) (n := 3) (Nat.le_of_ble_eq_true rfl)
  rw [lg_entry_eq]
  generalize (lg_sl ([.ref a_t, .int x1, .int x2]) ++ List.replicate (3 - (lg_sl ([.ref a_t, .int x1, .int x2])).length) Slot.unset).toArray = ls at hl ⊢
  have hl : lv_has ls 3 [(0, .ref a_t), (1, .int x1), (2, .int x2)] := hl
  unfold f_X12_first at h
  refine lv_aload_n hx hb dX12_first_0 rfl (lv_at hl 0 rfl) ?_
  refine lv_iconst (v := 0) hx hb dX12_first_1 (by decide) ?_
  refine va_put (D := E.1) (ci := 12) (v := .int 0) (ty := .int) (C := RX12) (T := TX12) (N := 61) hx hb hts (fun _ h => (List.mem_cons_of_mem _ (List.mem_append_right _ h))) tyX12 tyX12_ok nmX12 hown hk.1 hP hD hS 0 rfl rfl 0 (by decide) (hts (.fieldLink RX12 102 "GapSongsModel" "thrown" "I") (List.mem_cons_of_mem _ (List.mem_append_left _ (List.mem_of_getElem? (i := 0) rfl)))) (fun _ h9 => h9) rfl (by decide +kernel) rfl rfl (Nat.le_of_ble_eq_true rfl) dX12_first_2 (fun H locs hP hD hS => ?_)
  have hP : va_P E.1 vwCl (w_X12_first E a_t a_t_songLong a_t_firstNote a_t_wit a_t_code a_t_tape a_t_refused a_t_newSongLong a_t_newFirstNote a_t_newWit a_t_newRow a_t_readCode a_t_waits a_t_tested a_t_isTold a_t_rows a_t_ahead a_t_told a_t_pile a_t_common a_t_mostOf a_t_likes a_t_heard a_t_soon a_t_soonAll a_t_imageRow a_t_imageAhead a_t_imageHears 0 v_t_songs v_t_people v_t_forgetsAt v_t_fillsAt v_t_taped v_t_faultKind v_t_faultPlace v_t_long1 v_t_next0 v_t_sort v_t_place v_t_long0 v_t_value v_t_sign v_t_word v_t_newSongs v_t_newPeople v_t_newForgetsAt v_t_newFillsAt v_t_top v_t_firstValue v_t_lastValue v_t_waiting v_t_depth v_t_acts v_t_isWinter v_t_learntNow v_t_forgottenNow v_t_heardMany v_t_its0 v_t_hasImage v_t_imageActs v_t_imageHeard r_t_songLong r_t_firstNote) H := hP
  have hD : va_D A (w_X12_first E a_t a_t_songLong a_t_firstNote a_t_wit a_t_code a_t_tape a_t_refused a_t_newSongLong a_t_newFirstNote a_t_newWit a_t_newRow a_t_readCode a_t_waits a_t_tested a_t_isTold a_t_rows a_t_ahead a_t_told a_t_pile a_t_common a_t_mostOf a_t_likes a_t_heard a_t_soon a_t_soonAll a_t_imageRow a_t_imageAhead a_t_imageHears 0 v_t_songs v_t_people v_t_forgetsAt v_t_fillsAt v_t_taped v_t_faultKind v_t_faultPlace v_t_long1 v_t_next0 v_t_sort v_t_place v_t_long0 v_t_value v_t_sign v_t_word v_t_newSongs v_t_newPeople v_t_newForgetsAt v_t_newFillsAt v_t_top v_t_firstValue v_t_lastValue v_t_waiting v_t_depth v_t_acts v_t_isWinter v_t_learntNow v_t_forgottenNow v_t_heardMany v_t_its0 v_t_hasImage v_t_imageActs v_t_imageHeard r_t_songLong r_t_firstNote) := hD
  refine lv_aload_n hx hb dX12_first_5 rfl (lv_at hl 0 rfl) ?_
  refine lv_iload_n hx hb dX12_first_6 rfl (lv_at hl 1 rfl) ?_
  obtain ⟨r1, o1_0, hz1, h⟩ := gs_b2_e h
  refine gs_backWi (ws1 := (w_X12_first E a_t a_t_songLong a_t_firstNote a_t_wit a_t_code a_t_tape a_t_refused a_t_newSongLong a_t_newFirstNote a_t_newWit a_t_newRow a_t_readCode a_t_waits a_t_tested a_t_isTold a_t_rows a_t_ahead a_t_told a_t_pile a_t_common a_t_mostOf a_t_likes a_t_heard a_t_soon a_t_soonAll a_t_imageRow a_t_imageAhead a_t_imageHears o1_0 v_t_songs v_t_people v_t_forgetsAt v_t_fillsAt v_t_taped v_t_faultKind v_t_faultPlace v_t_long1 v_t_next0 v_t_sort v_t_place v_t_long0 v_t_value v_t_sign v_t_word v_t_newSongs v_t_newPeople v_t_newForgetsAt v_t_newFillsAt v_t_top v_t_firstValue v_t_lastValue v_t_waiting v_t_depth v_t_acts v_t_isWinter v_t_learntNow v_t_forgottenNow v_t_heardMany v_t_its0 v_t_hasImage v_t_imageActs v_t_imageHeard r_t_songLong r_t_firstNote)) (va_runV (As := [.int x1]) (rest := []) ⟨hx, hb, hml, hown, hts⟩ (c_X12_isSong l E a_t a_t_songLong a_t_firstNote a_t_wit a_t_code a_t_tape a_t_refused a_t_newSongLong a_t_newFirstNote a_t_newWit a_t_newRow a_t_readCode a_t_waits a_t_tested a_t_isTold a_t_rows a_t_ahead a_t_told a_t_pile a_t_common a_t_mostOf a_t_likes a_t_heard a_t_soon a_t_soonAll a_t_imageRow a_t_imageAhead a_t_imageHears 0 v_t_songs v_t_people v_t_forgetsAt v_t_fillsAt v_t_taped v_t_faultKind v_t_faultPlace v_t_long1 v_t_next0 v_t_sort v_t_place v_t_long0 v_t_value v_t_sign v_t_word v_t_newSongs v_t_newPeople v_t_newForgetsAt v_t_newFillsAt v_t_top v_t_firstValue v_t_lastValue v_t_waiting v_t_depth v_t_acts v_t_isWinter v_t_learntNow v_t_forgottenNow v_t_heardMany v_t_its0 v_t_hasImage v_t_imageActs v_t_imageHeard x1 r1 o1_0 hz1) (cwV 1 hts gX12_first_X12_isSong rfl rfl rfl (by decide +kernel) ⟨Nat.le_of_ble_eq_true rfl, Nat.le_of_ble_eq_true rfl⟩) (gs_preV (ci := 12) hk hP hD (is := [0]) rfl rfl rfl rfl) rfl rfl hl.1 rfl (lv_room (Nat.le_of_ble_eq_true rfl)) dX12_first_7 ⟨Nat.zero_le _, Nat.zero_le _⟩) hP hD hS [0] rfl rfl rfl rfl (fun H locs hP hD hS => ?_)
  refine lv_if_eq (tgt := 36) hx hb dX12_first_10 (by decide) (fun c2 => ?_) (fun c2 => ?_)
  · replace h := gs_ift c2 h
    refine lv_iconst (v := 0) hx hb dX12_first_36 (by decide) ?_
    have h := Option.some.inj h
    obtain ⟨w0, h⟩ := Prod.mk.inj h
    subst h
    subst w0
    exact hret _ _ _ _ hP hS dX12_first_37
  · replace h := gs_iff c2 h
    refine lv_aload_n hx hb dX12_first_13 rfl (lv_at hl 0 rfl) ?_
    refine lv_iload_n hx hb dX12_first_14 rfl (lv_at hl 1 rfl) ?_
    refine lv_iload_n hx hb dX12_first_15 rfl (lv_at hl 2 rfl) ?_
    obtain ⟨r3, o3_0, hz3, h⟩ := gs_b2_e h
    refine gs_backWi (ws1 := (w_X12_first E a_t a_t_songLong a_t_firstNote a_t_wit a_t_code a_t_tape a_t_refused a_t_newSongLong a_t_newFirstNote a_t_newWit a_t_newRow a_t_readCode a_t_waits a_t_tested a_t_isTold a_t_rows a_t_ahead a_t_told a_t_pile a_t_common a_t_mostOf a_t_likes a_t_heard a_t_soon a_t_soonAll a_t_imageRow a_t_imageAhead a_t_imageHears o3_0 v_t_songs v_t_people v_t_forgetsAt v_t_fillsAt v_t_taped v_t_faultKind v_t_faultPlace v_t_long1 v_t_next0 v_t_sort v_t_place v_t_long0 v_t_value v_t_sign v_t_word v_t_newSongs v_t_newPeople v_t_newForgetsAt v_t_newFillsAt v_t_top v_t_firstValue v_t_lastValue v_t_waiting v_t_depth v_t_acts v_t_isWinter v_t_learntNow v_t_forgottenNow v_t_heardMany v_t_its0 v_t_hasImage v_t_imageActs v_t_imageHeard r_t_songLong r_t_firstNote)) (va_runV (As := [.int x1, .int x2]) (rest := []) ⟨hx, hb, hml, hown, hts⟩ (c_X12_isPlace l E a_t a_t_songLong a_t_firstNote a_t_wit a_t_code a_t_tape a_t_refused a_t_newSongLong a_t_newFirstNote a_t_newWit a_t_newRow a_t_readCode a_t_waits a_t_tested a_t_isTold a_t_rows a_t_ahead a_t_told a_t_pile a_t_common a_t_mostOf a_t_likes a_t_heard a_t_soon a_t_soonAll a_t_imageRow a_t_imageAhead a_t_imageHears o1_0 v_t_songs v_t_people v_t_forgetsAt v_t_fillsAt v_t_taped v_t_faultKind v_t_faultPlace v_t_long1 v_t_next0 v_t_sort v_t_place v_t_long0 v_t_value v_t_sign v_t_word v_t_newSongs v_t_newPeople v_t_newForgetsAt v_t_newFillsAt v_t_top v_t_firstValue v_t_lastValue v_t_waiting v_t_depth v_t_acts v_t_isWinter v_t_learntNow v_t_forgottenNow v_t_heardMany v_t_its0 v_t_hasImage v_t_imageActs v_t_imageHeard r_t_songLong x1 x2 r3 o3_0 hz3) (cwV 2 hts gX12_first_X12_isPlace rfl rfl rfl (by decide +kernel) ⟨Nat.le_of_ble_eq_true rfl, Nat.le_of_ble_eq_true rfl⟩) (gs_preV (ci := 12) hk hP hD (is := [0, 1]) rfl rfl rfl rfl) rfl rfl hl.1 rfl (lv_room (Nat.le_of_ble_eq_true rfl)) dX12_first_16 ⟨Nat.zero_le _, Nat.zero_le _⟩) hP hD hS [0, 1] rfl rfl rfl rfl (fun H locs hP hD hS => ?_)
    refine lv_if_eq (tgt := 36) hx hb dX12_first_19 (by decide) (fun c4 => ?_) (fun c4 => ?_)
    · replace h := gs_ift c4 h
      refine lv_iconst (v := 0) hx hb dX12_first_36 (by decide) ?_
      have h := Option.some.inj h
      obtain ⟨w0, h⟩ := Prod.mk.inj h
      subst h
      subst w0
      exact hret _ _ _ _ hP hS dX12_first_37
    · replace h := gs_iff c4 h
      refine lv_aload_n hx hb dX12_first_22 rfl (lv_at hl 0 rfl) ?_
      refine va_get (D := E.1) (ci := 12) (v := .ref a_t_firstNote) (C := RX12) (T := TX12) (N := 61) hx hb hts (fun _ h => (List.mem_cons_of_mem _ (List.mem_append_right _ h))) hown hk.1 hP 0 rfl rfl 6 (by decide) (hts (.fieldLink RX12 20 "GapSongsModel" "firstNote" "[I") (List.mem_cons_of_mem _ (List.mem_append_left _ (List.mem_of_getElem? (i := 1) rfl)))) (fun _ h9 => h9) rfl dX12_first_23 ?_
      refine lv_bipush (v := 8) hx hb dX12_first_26 (by decide) ?_
      refine lv_iload_n hx hb dX12_first_28 rfl (lv_at hl 1 rfl) ?_
      refine lv_imul hx hb dX12_first_29 ?_
      refine lv_iload_n hx hb dX12_first_30 rfl (lv_at hl 2 rfl) ?_
      refine lv_iadd hx hb dX12_first_31 ?_
      obtain ⟨g5, h⟩ := gs_gd_e h
      refine va_iald hx hb hk.1 hP 2 0 rfl rfl (gs_in_e g5) dX12_first_32 ?_
      refine lv_goto (tgt := 37) hx hb dX12_first_33 (by decide) ?_
      have h := Option.some.inj h
      obtain ⟨w0, h⟩ := Prod.mk.inj h
      subst h
      subst w0
      exact hret _ _ _ _ hP hS dX12_first_37

theorem dX12_pupils_0 : decode cX12_pupils 0 = .ok (.iconst 0, 1) := by decide +kernel
theorem dX12_pupils_1 : decode cX12_pupils 1 = .ok (.istore 4, 2) := by decide +kernel
theorem dX12_pupils_3 : decode cX12_pupils 3 = .ok (.iconst 0, 1) := by decide +kernel
theorem dX12_pupils_4 : decode cX12_pupils 4 = .ok (.istore 5, 2) := by decide +kernel
theorem dX12_pupils_6 : decode cX12_pupils 6 = .ok (.iload 5, 2) := by decide +kernel
theorem dX12_pupils_8 : decode cX12_pupils 8 = .ok (.aload_n 0, 1) := by decide +kernel
theorem dX12_pupils_9 : decode cX12_pupils 9 = .ok (.getfield 276, 3) := by decide +kernel
theorem dX12_pupils_12 : decode cX12_pupils 12 = .ok (.if_icmp .ge 43, 3) := by decide +kernel
theorem dX12_pupils_15 : decode cX12_pupils 15 = .ok (.iload 4, 2) := by decide +kernel
theorem dX12_pupils_17 : decode cX12_pupils 17 = .ok (.aload_n 0, 1) := by decide +kernel
theorem dX12_pupils_18 : decode cX12_pupils 18 = .ok (.getfield 63, 3) := by decide +kernel
theorem dX12_pupils_21 : decode cX12_pupils 21 = .ok (.iload_n 1, 1) := by decide +kernel
theorem dX12_pupils_22 : decode cX12_pupils 22 = .ok (.sipush 316, 3) := by decide +kernel
theorem dX12_pupils_25 : decode cX12_pupils 25 = .ok (.iadd, 1) := by decide +kernel
theorem dX12_pupils_26 : decode cX12_pupils 26 = .ok (.iconst 5, 1) := by decide +kernel
theorem dX12_pupils_27 : decode cX12_pupils 27 = .ok (.iload 5, 2) := by decide +kernel
theorem dX12_pupils_29 : decode cX12_pupils 29 = .ok (.imul, 1) := by decide +kernel
theorem dX12_pupils_30 : decode cX12_pupils 30 = .ok (.iadd, 1) := by decide +kernel
theorem dX12_pupils_31 : decode cX12_pupils 31 = .ok (.iload_n 3, 1) := by decide +kernel
theorem dX12_pupils_32 : decode cX12_pupils 32 = .ok (.iadd, 1) := by decide +kernel
theorem dX12_pupils_33 : decode cX12_pupils 33 = .ok (.iaload, 1) := by decide +kernel
theorem dX12_pupils_34 : decode cX12_pupils 34 = .ok (.iload_n 2, 1) := by decide +kernel
theorem dX12_pupils_35 : decode cX12_pupils 35 = .ok (.if_icmp .ne 10, 3) := by decide +kernel
theorem dX12_pupils_38 : decode cX12_pupils 38 = .ok (.iconst 1, 1) := by decide +kernel
theorem dX12_pupils_39 : decode cX12_pupils 39 = .ok (.iload 5, 2) := by decide +kernel
theorem dX12_pupils_41 : decode cX12_pupils 41 = .ok (.ishl, 1) := by decide +kernel
theorem dX12_pupils_42 : decode cX12_pupils 42 = .ok (.goto 4, 3) := by decide +kernel
theorem dX12_pupils_45 : decode cX12_pupils 45 = .ok (.iconst 0, 1) := by decide +kernel
theorem dX12_pupils_46 : decode cX12_pupils 46 = .ok (.ior, 1) := by decide +kernel
theorem dX12_pupils_47 : decode cX12_pupils 47 = .ok (.istore 4, 2) := by decide +kernel
theorem dX12_pupils_49 : decode cX12_pupils 49 = .ok (.iinc 5 1, 3) := by decide +kernel
theorem dX12_pupils_52 : decode cX12_pupils 52 = .ok (.goto (-46), 3) := by decide +kernel
theorem dX12_pupils_55 : decode cX12_pupils 55 = .ok (.iload 4, 2) := by decide +kernel
theorem dX12_pupils_57 : decode cX12_pupils 57 = .ok (.ireturn, 1) := by decide +kernel
abbrev w_X12_pupils (E : gs_E) (a_t a_t_rows a_t_songLong a_t_firstNote a_t_wit a_t_code a_t_tape a_t_refused a_t_newSongLong a_t_newFirstNote a_t_newWit a_t_newRow a_t_readCode a_t_waits a_t_tested a_t_isTold a_t_ahead a_t_told a_t_pile a_t_common a_t_mostOf a_t_likes a_t_heard a_t_soon a_t_soonAll a_t_imageRow a_t_imageAhead a_t_imageHears : Nat) (v_t_thrown : Int32) (v_t_songs : Int32) (v_t_people : Int32) (v_t_forgetsAt : Int32) (v_t_fillsAt : Int32) (v_t_taped : Int32) (v_t_faultKind : Int32) (v_t_faultPlace : Int32) (v_t_long1 : Int32) (v_t_next0 : Int32) (v_t_sort : Int32) (v_t_place : Int32) (v_t_long0 : Int32) (v_t_value : Int32) (v_t_sign : Int32) (v_t_word : Int64) (v_t_newSongs : Int32) (v_t_newPeople : Int32) (v_t_newForgetsAt : Int32) (v_t_newFillsAt : Int32) (v_t_top : Int32) (v_t_firstValue : Int32) (v_t_lastValue : Int32) (v_t_waiting : Int32) (v_t_depth : Int32) (v_t_acts : Int32) (v_t_isWinter : Int32) (v_t_learntNow : Int32) (v_t_forgottenNow : Int32) (v_t_heardMany : Int32) (v_t_its0 : Int32) (v_t_hasImage : Int32) (v_t_imageActs : Int32) (v_t_imageHeard : Int32) (r_t_rows : Nat → Int32) : va_W := [(a_t, .inr (12, [.int v_t_thrown, .int v_t_songs, .int v_t_people, .int v_t_forgetsAt, .int v_t_fillsAt, .ref a_t_songLong, .ref a_t_firstNote, .ref a_t_wit, .ref a_t_code, .ref a_t_tape, .int v_t_taped, .int v_t_faultKind, .int v_t_faultPlace, .ref a_t_refused, .int v_t_long1, .int v_t_next0, .int v_t_sort, .int v_t_place, .int v_t_long0, .int v_t_value, .int v_t_sign, .long v_t_word, .int v_t_newSongs, .int v_t_newPeople, .int v_t_newForgetsAt, .int v_t_newFillsAt, .int v_t_top, .int v_t_firstValue, .int v_t_lastValue, .int v_t_waiting, .int v_t_depth, .ref a_t_newSongLong, .ref a_t_newFirstNote, .ref a_t_newWit, .ref a_t_newRow, .ref a_t_readCode, .ref a_t_waits, .ref a_t_tested, .ref a_t_isTold, .ref a_t_rows, .ref a_t_ahead, .int v_t_acts, .ref a_t_told, .ref a_t_pile, .int v_t_isWinter, .int v_t_learntNow, .int v_t_forgottenNow, .ref a_t_common, .ref a_t_mostOf, .ref a_t_likes, .int v_t_heardMany, .ref a_t_heard, .ref a_t_soon, .ref a_t_soonAll, .int v_t_its0, .int v_t_hasImage, .int v_t_imageActs, .int v_t_imageHeard, .ref a_t_imageRow, .ref a_t_imageAhead, .ref a_t_imageHears])), (a_t_rows, .inl (E.2.1, 744, .inl r_t_rows))]
abbrev rm_X12_pupils : Room := { frames := 0, cells := 0, slots := 0, locals := 0 }
def S_X12_pupils_6 (p : Program) (l : Launch) (e : Env) (s : State) (m : MethodId) (args : Array Value) (below : List Frame) (meth : Method) (c : Code) (Q : State → Prop) (a_t a_t_rows a_t_songLong a_t_firstNote a_t_wit a_t_code a_t_tape a_t_refused a_t_newSongLong a_t_newFirstNote a_t_newWit a_t_newRow a_t_readCode a_t_waits a_t_tested a_t_isTold a_t_ahead a_t_told a_t_pile a_t_common a_t_mostOf a_t_likes a_t_heard a_t_soon a_t_soonAll a_t_imageRow a_t_imageAhead a_t_imageHears : Nat) (x1 : Int32) (x2 : Int32) (x3 : Int32) (x4 : Int32) (x5 : Int32) : Prop := ∀ (ls : Array Slot), lv_has ls 6 [(0, .ref a_t), (1, .int x1), (2, .int x2), (3, .int x3), (4, .int x4), (5, .int x5)] → W p l e rm_X12_pupils s m args below meth c s.heap [] 0 0 Q (F0 m 6 ls [])
def f_X12_pupils_6 (x1 : Int32) (x2 : Int32) (x3 : Int32) (v_t_people : Int32) (r_t_rows : Nat → Int32) (K6 : Int32 → Int32 → Option (Int32)) (x4 : Int32) (x5 : Int32) : Option (Int32) :=
  if v_t_people ≤ x5 then
    some x4
  else
    gs_gd (gs_in (((x1 + 316) + (5 * x5)) + x3) 744) <|
    if (r_t_rows (((x1 + 316) + (5 * x5)) + x3).toNatClampNeg) = x2 then
      K6 (x4 ||| (1 <<< (x5 &&& 31))) (x5 + 1)
    else
      K6 (x4 ||| 0) (x5 + 1)
set_option maxHeartbeats 4000000 in
set_option maxRecDepth 100000 in
theorem t_X12_pupils_6_b {p : Program} {l : Launch} {e : Env} {s : State} {m : MethodId} {args : Array Value} {below : List Frame} {meth : Method} {c : Code} {Q : State → Prop} {E : gs_E} {a_t a_t_rows a_t_songLong a_t_firstNote a_t_wit a_t_code a_t_tape a_t_refused a_t_newSongLong a_t_newFirstNote a_t_newWit a_t_newRow a_t_readCode a_t_waits a_t_tested a_t_isTold a_t_ahead a_t_told a_t_pile a_t_common a_t_mostOf a_t_likes a_t_heard a_t_soon a_t_soonAll a_t_imageRow a_t_imageAhead a_t_imageHears : Nat} {v_t_thrown : Int32} {v_t_songs : Int32} {v_t_people : Int32} {v_t_forgetsAt : Int32} {v_t_fillsAt : Int32} {v_t_taped : Int32} {v_t_faultKind : Int32} {v_t_faultPlace : Int32} {v_t_long1 : Int32} {v_t_next0 : Int32} {v_t_sort : Int32} {v_t_place : Int32} {v_t_long0 : Int32} {v_t_value : Int32} {v_t_sign : Int32} {v_t_word : Int64} {v_t_newSongs : Int32} {v_t_newPeople : Int32} {v_t_newForgetsAt : Int32} {v_t_newFillsAt : Int32} {v_t_top : Int32} {v_t_firstValue : Int32} {v_t_lastValue : Int32} {v_t_waiting : Int32} {v_t_depth : Int32} {v_t_acts : Int32} {v_t_isWinter : Int32} {v_t_learntNow : Int32} {v_t_forgottenNow : Int32} {v_t_heardMany : Int32} {v_t_its0 : Int32} {v_t_hasImage : Int32} {v_t_imageActs : Int32} {v_t_imageHeard : Int32} {r_t_rows : Nat → Int32} {rr : Int32} (X0 : gs_X wsX12_pupils cX12_pupils RX12 6 (some .int) p s m args meth c) (hk : gs_K E s) (hP : va_P E.1 vwCl (w_X12_pupils E a_t a_t_rows a_t_songLong a_t_firstNote a_t_wit a_t_code a_t_tape a_t_refused a_t_newSongLong a_t_newFirstNote a_t_newWit a_t_newRow a_t_readCode a_t_waits a_t_tested a_t_isTold a_t_ahead a_t_told a_t_pile a_t_common a_t_mostOf a_t_likes a_t_heard a_t_soon a_t_soonAll a_t_imageRow a_t_imageAhead a_t_imageHears v_t_thrown v_t_songs v_t_people v_t_forgetsAt v_t_fillsAt v_t_taped v_t_faultKind v_t_faultPlace v_t_long1 v_t_next0 v_t_sort v_t_place v_t_long0 v_t_value v_t_sign v_t_word v_t_newSongs v_t_newPeople v_t_newForgetsAt v_t_newFillsAt v_t_top v_t_firstValue v_t_lastValue v_t_waiting v_t_depth v_t_acts v_t_isWinter v_t_learntNow v_t_forgottenNow v_t_heardMany v_t_its0 v_t_hasImage v_t_imageActs v_t_imageHeard r_t_rows) s.heap) (hD : va_D (fun _ => True) (w_X12_pupils E a_t a_t_rows a_t_songLong a_t_firstNote a_t_wit a_t_code a_t_tape a_t_refused a_t_newSongLong a_t_newFirstNote a_t_newWit a_t_newRow a_t_readCode a_t_waits a_t_tested a_t_isTold a_t_ahead a_t_told a_t_pile a_t_common a_t_mostOf a_t_likes a_t_heard a_t_soon a_t_soonAll a_t_imageRow a_t_imageAhead a_t_imageHears v_t_thrown v_t_songs v_t_people v_t_forgetsAt v_t_fillsAt v_t_taped v_t_faultKind v_t_faultPlace v_t_long1 v_t_next0 v_t_sort v_t_place v_t_long0 v_t_value v_t_sign v_t_word v_t_newSongs v_t_newPeople v_t_newForgetsAt v_t_newFillsAt v_t_top v_t_firstValue v_t_lastValue v_t_waiting v_t_depth v_t_acts v_t_isWinter v_t_learntNow v_t_forgottenNow v_t_heardMany v_t_its0 v_t_hasImage v_t_imageActs v_t_imageHeard r_t_rows)) {x1 : Int32} {x2 : Int32} {x3 : Int32} {x4 : Int32} {x5 : Int32} (hret : ∀ (pc : Nat) (ls : Array Slot), decode cX12_pupils pc = .ok (.ireturn, 1) → W p l e rm_X12_pupils s m args below meth c s.heap [] 0 0 Q (F0 m pc ls [.int rr])) {K6 : Int32 → Int32 → Option (Int32)} (hK6 : ∀ (x4 : Int32) (x5 : Int32), K6 x4 x5 = some rr → S_X12_pupils_6 p l e s m args below meth c Q a_t a_t_rows a_t_songLong a_t_firstNote a_t_wit a_t_code a_t_tape a_t_refused a_t_newSongLong a_t_newFirstNote a_t_newWit a_t_newRow a_t_readCode a_t_waits a_t_tested a_t_isTold a_t_ahead a_t_told a_t_pile a_t_common a_t_mostOf a_t_likes a_t_heard a_t_soon a_t_soonAll a_t_imageRow a_t_imageAhead a_t_imageHears x1 x2 x3 x4 x5) (h : f_X12_pupils_6 x1 x2 x3 v_t_people r_t_rows K6 x4 x5 = some rr) : S_X12_pupils_6 p l e s m args below meth c Q a_t a_t_rows a_t_songLong a_t_firstNote a_t_wit a_t_code a_t_tape a_t_refused a_t_newSongLong a_t_newFirstNote a_t_newWit a_t_newRow a_t_readCode a_t_waits a_t_tested a_t_isTold a_t_ahead a_t_told a_t_pile a_t_common a_t_mostOf a_t_likes a_t_heard a_t_soon a_t_soonAll a_t_imageRow a_t_imageAhead a_t_imageHears x1 x2 x3 x4 x5 := by
  obtain ⟨hx, hb, hml, hown, hts, hr, hlk⟩ := id X0
  intro ls hl
  unfold f_X12_pupils_6 at h
  refine lv_iload hx hb dX12_pupils_6 (lv_at hl 5 rfl) ?_
  refine lv_aload_n hx hb dX12_pupils_8 rfl (lv_at hl 0 rfl) ?_
  refine va_get (D := E.1) (ci := 12) (v := .int v_t_people) (C := RX12) (T := TX12) (N := 61) hx hb hts (fun _ h => (List.mem_cons_of_mem _ (List.mem_append_right _ h))) hown hk.1 hP 0 rfl rfl 2 (by decide) (hts (.fieldLink RX12 276 "GapSongsModel" "people" "I") (List.mem_cons_of_mem _ (List.mem_append_left _ (List.mem_of_getElem? (i := 0) rfl)))) (fun _ h9 => h9) rfl dX12_pupils_9 ?_
  refine lv_icmp_ge (tgt := 55) hx hb dX12_pupils_12 (by decide) (fun c1 => ?_) (fun c1 => ?_)
  · replace h := gs_ift c1 h
    refine lv_iload hx hb dX12_pupils_55 (lv_at hl 4 rfl) ?_
    have h := Option.some.inj h
    subst h
    exact hret _ _ dX12_pupils_57
  · replace h := gs_iff c1 h
    refine lv_iload hx hb dX12_pupils_15 (lv_at hl 4 rfl) ?_
    refine lv_aload_n hx hb dX12_pupils_17 rfl (lv_at hl 0 rfl) ?_
    refine va_get (D := E.1) (ci := 12) (v := .ref a_t_rows) (C := RX12) (T := TX12) (N := 61) hx hb hts (fun _ h => (List.mem_cons_of_mem _ (List.mem_append_right _ h))) hown hk.1 hP 0 rfl rfl 39 (by decide) (hts (.fieldLink RX12 63 "GapSongsModel" "rows" "[I") (List.mem_cons_of_mem _ (List.mem_append_left _ (List.mem_of_getElem? (i := 1) rfl)))) (fun _ h9 => h9) rfl dX12_pupils_18 ?_
    refine lv_iload_n hx hb dX12_pupils_21 rfl (lv_at hl 1 rfl) ?_
    refine lv_sipush (v := 316) hx hb dX12_pupils_22 (by decide) ?_
    refine lv_iadd hx hb dX12_pupils_25 ?_
    refine lv_iconst (v := 5) hx hb dX12_pupils_26 (by decide) ?_
    refine lv_iload hx hb dX12_pupils_27 (lv_at hl 5 rfl) ?_
    refine lv_imul hx hb dX12_pupils_29 ?_
    refine lv_iadd hx hb dX12_pupils_30 ?_
    refine lv_iload_n hx hb dX12_pupils_31 rfl (lv_at hl 3 rfl) ?_
    refine lv_iadd hx hb dX12_pupils_32 ?_
    obtain ⟨g2, h⟩ := gs_gd_e h
    refine va_iald hx hb hk.1 hP 1 0 rfl rfl (gs_in_e g2) dX12_pupils_33 ?_
    refine lv_iload_n hx hb dX12_pupils_34 rfl (lv_at hl 2 rfl) ?_
    refine lv_icmp_ne (tgt := 45) hx hb dX12_pupils_35 (by decide) (fun c3 => ?_) (fun c3 => ?_)
    · replace h := gs_iff c3 h
      refine lv_iconst (v := 0) hx hb dX12_pupils_45 (by decide) ?_
      refine lv_ior hx hb dX12_pupils_46 ?_
      refine lv_istore (lv' := [(4, .int (x4 ||| 0)), (0, .ref a_t), (1, .int x1), (2, .int x2), (3, .int x3), (5, .int x5)]) hx hb dX12_pupils_47 hl (by decide) rfl (fun ls hl => ?_)
      refine lv_iinc (v := x5 + 1) (lv' := [(5, .int (x5 + 1)), (4, .int (x4 ||| 0)), (0, .ref a_t), (1, .int x1), (2, .int x2), (3, .int x3)]) hx hb dX12_pupils_49 hl (k := 5) rfl rfl (by decide) rfl (fun ls hl => ?_)
      refine lv_goto (tgt := 6) hx hb dX12_pupils_52 (by decide) ?_
      exact hK6 (x4 ||| 0) (x5 + 1) h _ (lv_sub hl [2, 3, 4, 5, 1, 0] rfl)
    · replace h := gs_ift c3 h
      refine lv_iconst (v := 1) hx hb dX12_pupils_38 (by decide) ?_
      refine lv_iload hx hb dX12_pupils_39 (lv_at hl 5 rfl) ?_
      refine lv_ishl hx hb dX12_pupils_41 ?_
      refine lv_goto (tgt := 46) hx hb dX12_pupils_42 (by decide) ?_
      refine lv_ior hx hb dX12_pupils_46 ?_
      refine lv_istore (lv' := [(4, .int (x4 ||| (1 <<< (x5 &&& 31)))), (0, .ref a_t), (1, .int x1), (2, .int x2), (3, .int x3), (5, .int x5)]) hx hb dX12_pupils_47 hl (by decide) rfl (fun ls hl => ?_)
      refine lv_iinc (v := x5 + 1) (lv' := [(5, .int (x5 + 1)), (4, .int (x4 ||| (1 <<< (x5 &&& 31)))), (0, .ref a_t), (1, .int x1), (2, .int x2), (3, .int x3)]) hx hb dX12_pupils_49 hl (k := 5) rfl rfl (by decide) rfl (fun ls hl => ?_)
      refine lv_goto (tgt := 6) hx hb dX12_pupils_52 (by decide) ?_
      exact hK6 (x4 ||| (1 <<< (x5 &&& 31))) (x5 + 1) h _ (lv_sub hl [2, 3, 4, 5, 1, 0] rfl)
set_option maxHeartbeats 4000000 in
set_option maxRecDepth 100000 in
theorem t_X12_pupils_6_n {p : Program} {l : Launch} {e : Env} {s : State} {m : MethodId} {args : Array Value} {below : List Frame} {meth : Method} {c : Code} {Q : State → Prop} {E : gs_E} {a_t a_t_rows a_t_songLong a_t_firstNote a_t_wit a_t_code a_t_tape a_t_refused a_t_newSongLong a_t_newFirstNote a_t_newWit a_t_newRow a_t_readCode a_t_waits a_t_tested a_t_isTold a_t_ahead a_t_told a_t_pile a_t_common a_t_mostOf a_t_likes a_t_heard a_t_soon a_t_soonAll a_t_imageRow a_t_imageAhead a_t_imageHears : Nat} {v_t_thrown : Int32} {v_t_songs : Int32} {v_t_people : Int32} {v_t_forgetsAt : Int32} {v_t_fillsAt : Int32} {v_t_taped : Int32} {v_t_faultKind : Int32} {v_t_faultPlace : Int32} {v_t_long1 : Int32} {v_t_next0 : Int32} {v_t_sort : Int32} {v_t_place : Int32} {v_t_long0 : Int32} {v_t_value : Int32} {v_t_sign : Int32} {v_t_word : Int64} {v_t_newSongs : Int32} {v_t_newPeople : Int32} {v_t_newForgetsAt : Int32} {v_t_newFillsAt : Int32} {v_t_top : Int32} {v_t_firstValue : Int32} {v_t_lastValue : Int32} {v_t_waiting : Int32} {v_t_depth : Int32} {v_t_acts : Int32} {v_t_isWinter : Int32} {v_t_learntNow : Int32} {v_t_forgottenNow : Int32} {v_t_heardMany : Int32} {v_t_its0 : Int32} {v_t_hasImage : Int32} {v_t_imageActs : Int32} {v_t_imageHeard : Int32} {r_t_rows : Nat → Int32} {rr : Int32} (X0 : gs_X wsX12_pupils cX12_pupils RX12 6 (some .int) p s m args meth c) (hk : gs_K E s) (hP : va_P E.1 vwCl (w_X12_pupils E a_t a_t_rows a_t_songLong a_t_firstNote a_t_wit a_t_code a_t_tape a_t_refused a_t_newSongLong a_t_newFirstNote a_t_newWit a_t_newRow a_t_readCode a_t_waits a_t_tested a_t_isTold a_t_ahead a_t_told a_t_pile a_t_common a_t_mostOf a_t_likes a_t_heard a_t_soon a_t_soonAll a_t_imageRow a_t_imageAhead a_t_imageHears v_t_thrown v_t_songs v_t_people v_t_forgetsAt v_t_fillsAt v_t_taped v_t_faultKind v_t_faultPlace v_t_long1 v_t_next0 v_t_sort v_t_place v_t_long0 v_t_value v_t_sign v_t_word v_t_newSongs v_t_newPeople v_t_newForgetsAt v_t_newFillsAt v_t_top v_t_firstValue v_t_lastValue v_t_waiting v_t_depth v_t_acts v_t_isWinter v_t_learntNow v_t_forgottenNow v_t_heardMany v_t_its0 v_t_hasImage v_t_imageActs v_t_imageHeard r_t_rows) s.heap) (hD : va_D (fun _ => True) (w_X12_pupils E a_t a_t_rows a_t_songLong a_t_firstNote a_t_wit a_t_code a_t_tape a_t_refused a_t_newSongLong a_t_newFirstNote a_t_newWit a_t_newRow a_t_readCode a_t_waits a_t_tested a_t_isTold a_t_ahead a_t_told a_t_pile a_t_common a_t_mostOf a_t_likes a_t_heard a_t_soon a_t_soonAll a_t_imageRow a_t_imageAhead a_t_imageHears v_t_thrown v_t_songs v_t_people v_t_forgetsAt v_t_fillsAt v_t_taped v_t_faultKind v_t_faultPlace v_t_long1 v_t_next0 v_t_sort v_t_place v_t_long0 v_t_value v_t_sign v_t_word v_t_newSongs v_t_newPeople v_t_newForgetsAt v_t_newFillsAt v_t_top v_t_firstValue v_t_lastValue v_t_waiting v_t_depth v_t_acts v_t_isWinter v_t_learntNow v_t_forgottenNow v_t_heardMany v_t_its0 v_t_hasImage v_t_imageActs v_t_imageHeard r_t_rows)) {x1 : Int32} {x2 : Int32} {x3 : Int32} (hret : ∀ (pc : Nat) (ls : Array Slot), decode cX12_pupils pc = .ok (.ireturn, 1) → W p l e rm_X12_pupils s m args below meth c s.heap [] 0 0 Q (F0 m pc ls [.int rr])) : ∀ (n : Nat) (x4 : Int32) (x5 : Int32), gs_it (fun _ _ => none) (f_X12_pupils_6 x1 x2 x3 v_t_people r_t_rows) n x4 x5 = some rr → S_X12_pupils_6 p l e s m args below meth c Q a_t a_t_rows a_t_songLong a_t_firstNote a_t_wit a_t_code a_t_tape a_t_refused a_t_newSongLong a_t_newFirstNote a_t_newWit a_t_newRow a_t_readCode a_t_waits a_t_tested a_t_isTold a_t_ahead a_t_told a_t_pile a_t_common a_t_mostOf a_t_likes a_t_heard a_t_soon a_t_soonAll a_t_imageRow a_t_imageAhead a_t_imageHears x1 x2 x3 x4 x5 := by
  intro n
  induction n with
  | zero =>
    intro x4 x5 h
    have h : (none : Option (Int32)) = some rr := h
    cases h
  | succ n ih =>
    intro x4 x5 h
    exact t_X12_pupils_6_b X0 hk hP hD hret  (K6 := gs_it (fun _ _ => none) (f_X12_pupils_6 x1 x2 x3 v_t_people r_t_rows) n) (hK6 := ih) (h := h)
theorem t_X12_pupils_6 {p : Program} {l : Launch} {e : Env} {s : State} {m : MethodId} {args : Array Value} {below : List Frame} {meth : Method} {c : Code} {Q : State → Prop} {E : gs_E} {a_t a_t_rows a_t_songLong a_t_firstNote a_t_wit a_t_code a_t_tape a_t_refused a_t_newSongLong a_t_newFirstNote a_t_newWit a_t_newRow a_t_readCode a_t_waits a_t_tested a_t_isTold a_t_ahead a_t_told a_t_pile a_t_common a_t_mostOf a_t_likes a_t_heard a_t_soon a_t_soonAll a_t_imageRow a_t_imageAhead a_t_imageHears : Nat} {v_t_thrown : Int32} {v_t_songs : Int32} {v_t_people : Int32} {v_t_forgetsAt : Int32} {v_t_fillsAt : Int32} {v_t_taped : Int32} {v_t_faultKind : Int32} {v_t_faultPlace : Int32} {v_t_long1 : Int32} {v_t_next0 : Int32} {v_t_sort : Int32} {v_t_place : Int32} {v_t_long0 : Int32} {v_t_value : Int32} {v_t_sign : Int32} {v_t_word : Int64} {v_t_newSongs : Int32} {v_t_newPeople : Int32} {v_t_newForgetsAt : Int32} {v_t_newFillsAt : Int32} {v_t_top : Int32} {v_t_firstValue : Int32} {v_t_lastValue : Int32} {v_t_waiting : Int32} {v_t_depth : Int32} {v_t_acts : Int32} {v_t_isWinter : Int32} {v_t_learntNow : Int32} {v_t_forgottenNow : Int32} {v_t_heardMany : Int32} {v_t_its0 : Int32} {v_t_hasImage : Int32} {v_t_imageActs : Int32} {v_t_imageHeard : Int32} {r_t_rows : Nat → Int32} {rr : Int32} (X0 : gs_X wsX12_pupils cX12_pupils RX12 6 (some .int) p s m args meth c) (hk : gs_K E s) (hP : va_P E.1 vwCl (w_X12_pupils E a_t a_t_rows a_t_songLong a_t_firstNote a_t_wit a_t_code a_t_tape a_t_refused a_t_newSongLong a_t_newFirstNote a_t_newWit a_t_newRow a_t_readCode a_t_waits a_t_tested a_t_isTold a_t_ahead a_t_told a_t_pile a_t_common a_t_mostOf a_t_likes a_t_heard a_t_soon a_t_soonAll a_t_imageRow a_t_imageAhead a_t_imageHears v_t_thrown v_t_songs v_t_people v_t_forgetsAt v_t_fillsAt v_t_taped v_t_faultKind v_t_faultPlace v_t_long1 v_t_next0 v_t_sort v_t_place v_t_long0 v_t_value v_t_sign v_t_word v_t_newSongs v_t_newPeople v_t_newForgetsAt v_t_newFillsAt v_t_top v_t_firstValue v_t_lastValue v_t_waiting v_t_depth v_t_acts v_t_isWinter v_t_learntNow v_t_forgottenNow v_t_heardMany v_t_its0 v_t_hasImage v_t_imageActs v_t_imageHeard r_t_rows) s.heap) (hD : va_D (fun _ => True) (w_X12_pupils E a_t a_t_rows a_t_songLong a_t_firstNote a_t_wit a_t_code a_t_tape a_t_refused a_t_newSongLong a_t_newFirstNote a_t_newWit a_t_newRow a_t_readCode a_t_waits a_t_tested a_t_isTold a_t_ahead a_t_told a_t_pile a_t_common a_t_mostOf a_t_likes a_t_heard a_t_soon a_t_soonAll a_t_imageRow a_t_imageAhead a_t_imageHears v_t_thrown v_t_songs v_t_people v_t_forgetsAt v_t_fillsAt v_t_taped v_t_faultKind v_t_faultPlace v_t_long1 v_t_next0 v_t_sort v_t_place v_t_long0 v_t_value v_t_sign v_t_word v_t_newSongs v_t_newPeople v_t_newForgetsAt v_t_newFillsAt v_t_top v_t_firstValue v_t_lastValue v_t_waiting v_t_depth v_t_acts v_t_isWinter v_t_learntNow v_t_forgottenNow v_t_heardMany v_t_its0 v_t_hasImage v_t_imageActs v_t_imageHeard r_t_rows)) {x1 : Int32} {x2 : Int32} {x3 : Int32} {x4 : Int32} {x5 : Int32} (hret : ∀ (pc : Nat) (ls : Array Slot), decode cX12_pupils pc = .ok (.ireturn, 1) → W p l e rm_X12_pupils s m args below meth c s.heap [] 0 0 Q (F0 m pc ls [.int rr])) (h : gs_it (fun _ _ => none) (f_X12_pupils_6 x1 x2 x3 v_t_people r_t_rows) gs_fuel x4 x5 = some rr) : S_X12_pupils_6 p l e s m args below meth c Q a_t a_t_rows a_t_songLong a_t_firstNote a_t_wit a_t_code a_t_tape a_t_refused a_t_newSongLong a_t_newFirstNote a_t_newWit a_t_newRow a_t_readCode a_t_waits a_t_tested a_t_isTold a_t_ahead a_t_told a_t_pile a_t_common a_t_mostOf a_t_likes a_t_heard a_t_soon a_t_soonAll a_t_imageRow a_t_imageAhead a_t_imageHears x1 x2 x3 x4 x5 :=
  t_X12_pupils_6_n X0 hk hP hD hret  gs_fuel x4 x5 h
def f_X12_pupils (x1 : Int32) (x2 : Int32) (x3 : Int32) (v_t_people : Int32) (r_t_rows : Nat → Int32) : Option (Int32) :=
  gs_it (fun _ _ => none) (f_X12_pupils_6 x1 x2 x3 v_t_people r_t_rows) gs_fuel 0 0
set_option maxHeartbeats 4000000 in
set_option maxRecDepth 100000 in
theorem c_X12_pupils (l : Launch) (E : gs_E) (a_t a_t_rows a_t_songLong a_t_firstNote a_t_wit a_t_code a_t_tape a_t_refused a_t_newSongLong a_t_newFirstNote a_t_newWit a_t_newRow a_t_readCode a_t_waits a_t_tested a_t_isTold a_t_ahead a_t_told a_t_pile a_t_common a_t_mostOf a_t_likes a_t_heard a_t_soon a_t_soonAll a_t_imageRow a_t_imageAhead a_t_imageHears : Nat) (v_t_thrown : Int32) (v_t_songs : Int32) (v_t_people : Int32) (v_t_forgetsAt : Int32) (v_t_fillsAt : Int32) (v_t_taped : Int32) (v_t_faultKind : Int32) (v_t_faultPlace : Int32) (v_t_long1 : Int32) (v_t_next0 : Int32) (v_t_sort : Int32) (v_t_place : Int32) (v_t_long0 : Int32) (v_t_value : Int32) (v_t_sign : Int32) (v_t_word : Int64) (v_t_newSongs : Int32) (v_t_newPeople : Int32) (v_t_newForgetsAt : Int32) (v_t_newFillsAt : Int32) (v_t_top : Int32) (v_t_firstValue : Int32) (v_t_lastValue : Int32) (v_t_waiting : Int32) (v_t_depth : Int32) (v_t_acts : Int32) (v_t_isWinter : Int32) (v_t_learntNow : Int32) (v_t_forgottenNow : Int32) (v_t_heardMany : Int32) (v_t_its0 : Int32) (v_t_hasImage : Int32) (v_t_imageActs : Int32) (v_t_imageHeard : Int32) (r_t_rows : Nat → Int32) (x1 : Int32) (x2 : Int32) (x3 : Int32) (rr : Int32) (h : f_X12_pupils x1 x2 x3 v_t_people r_t_rows = some rr) : gs_MR l yX12_pupils wsX12_pupils rm_X12_pupils [.ref a_t, .int x1, .int x2, .int x3] E (w_X12_pupils E a_t a_t_rows a_t_songLong a_t_firstNote a_t_wit a_t_code a_t_tape a_t_refused a_t_newSongLong a_t_newFirstNote a_t_newWit a_t_newRow a_t_readCode a_t_waits a_t_tested a_t_isTold a_t_ahead a_t_told a_t_pile a_t_common a_t_mostOf a_t_likes a_t_heard a_t_soon a_t_soonAll a_t_imageRow a_t_imageAhead a_t_imageHears v_t_thrown v_t_songs v_t_people v_t_forgetsAt v_t_fillsAt v_t_taped v_t_faultKind v_t_faultPlace v_t_long1 v_t_next0 v_t_sort v_t_place v_t_long0 v_t_value v_t_sign v_t_word v_t_newSongs v_t_newPeople v_t_newForgetsAt v_t_newFillsAt v_t_top v_t_firstValue v_t_lastValue v_t_waiting v_t_depth v_t_acts v_t_isWinter v_t_learntNow v_t_forgottenNow v_t_heardMany v_t_its0 v_t_hasImage v_t_imageActs v_t_imageHeard r_t_rows) (some (.int rr)) := by
  refine Met.ofW (cc := cX12_pupils) (maxL := 6) (ret := (some .int)) (by decide) rfl ?_
  intro p e s m args below meth c s₁ B hml hv
  obtain ⟨rfl, hP, hk, hD0⟩ := hv
  have X0 : gs_X wsX12_pupils cX12_pupils RX12 6 (some .int) p s m ([.ref a_t, .int x1, .int x2, .int x3] : List Value).toArray meth c := gs_X.of B hml
  obtain ⟨hx, hb, -, hown, hts, hr, hlk⟩ := id X0
  have hD := hD0
  have hret : ∀ (pc : Nat) (ls : Array Slot), decode cX12_pupils pc = .ok (.ireturn, 1) → W p l e rm_X12_pupils s m ([.ref a_t, .int x1, .int x2, .int x3] : List Value).toArray below meth c s.heap [] 0 0 (MQ below (gs_QR (some (.int rr))) ([.ref a_t, .int x1, .int x2, .int x3] : List Value).toArray s 0 0 (fun _ => False)) (F0 m pc ls [.int rr]) := fun pc ls hd => W.iret hx hb hr (fun t ht hW => ⟨rfl, ht⟩) (fun q hq => by cases hq) hd
  have hl := lv_entry ([.ref a_t, .int x1, .int x2, .int x3]) (n := 6) (Nat.le_of_ble_eq_true rfl)
  rw [lg_entry_eq]
  generalize (lg_sl ([.ref a_t, .int x1, .int x2, .int x3]) ++ List.replicate (6 - (lg_sl ([.ref a_t, .int x1, .int x2, .int x3])).length) Slot.unset).toArray = ls at hl ⊢
  have hl : lv_has ls 6 [(0, .ref a_t), (1, .int x1), (2, .int x2), (3, .int x3)] := hl
  unfold f_X12_pupils at h
  refine lv_iconst (v := 0) hx hb dX12_pupils_0 (by decide) ?_
  refine lv_istore (lv' := [(4, .int 0), (0, .ref a_t), (1, .int x1), (2, .int x2), (3, .int x3)]) hx hb dX12_pupils_1 hl (by decide) rfl (fun ls hl => ?_)
  refine lv_iconst (v := 0) hx hb dX12_pupils_3 (by decide) ?_
  refine lv_istore (lv' := [(5, .int 0), (4, .int 0), (0, .ref a_t), (1, .int x1), (2, .int x2), (3, .int x3)]) hx hb dX12_pupils_4 hl (by decide) rfl (fun ls hl => ?_)
  exact t_X12_pupils_6 X0 hk hP hD hret  (h := h) _ (lv_sub hl [2, 3, 4, 5, 1, 0] rfl)

theorem dX12_taughtBy_0 : decode cX12_taughtBy 0 = .ok (.iconst 0, 1) := by decide +kernel
theorem dX12_taughtBy_1 : decode cX12_taughtBy 1 = .ok (.istore_n 3, 1) := by decide +kernel
theorem dX12_taughtBy_2 : decode cX12_taughtBy 2 = .ok (.aload_n 0, 1) := by decide +kernel
theorem dX12_taughtBy_3 : decode cX12_taughtBy 3 = .ok (.getfield 63, 3) := by decide +kernel
theorem dX12_taughtBy_6 : decode cX12_taughtBy 6 = .ok (.sipush 316, 3) := by decide +kernel
theorem dX12_taughtBy_9 : decode cX12_taughtBy 9 = .ok (.iconst 5, 1) := by decide +kernel
theorem dX12_taughtBy_10 : decode cX12_taughtBy 10 = .ok (.iload_n 1, 1) := by decide +kernel
theorem dX12_taughtBy_11 : decode cX12_taughtBy 11 = .ok (.imul, 1) := by decide +kernel
theorem dX12_taughtBy_12 : decode cX12_taughtBy 12 = .ok (.iadd, 1) := by decide +kernel
theorem dX12_taughtBy_13 : decode cX12_taughtBy 13 = .ok (.iload_n 2, 1) := by decide +kernel
theorem dX12_taughtBy_14 : decode cX12_taughtBy 14 = .ok (.iadd, 1) := by decide +kernel
theorem dX12_taughtBy_15 : decode cX12_taughtBy 15 = .ok (.iaload, 1) := by decide +kernel
theorem dX12_taughtBy_16 : decode cX12_taughtBy 16 = .ok (.istore 4, 2) := by decide +kernel
theorem dX12_taughtBy_18 : decode cX12_taughtBy 18 = .ok (.iload 4, 2) := by decide +kernel
theorem dX12_taughtBy_20 : decode cX12_taughtBy 20 = .ok (.iconst (-1), 1) := by decide +kernel
theorem dX12_taughtBy_21 : decode cX12_taughtBy 21 = .ok (.if_icmp .eq 39, 3) := by decide +kernel
theorem dX12_taughtBy_24 : decode cX12_taughtBy 24 = .ok (.iload_n 3, 1) := by decide +kernel
theorem dX12_taughtBy_25 : decode cX12_taughtBy 25 = .ok (.iload 4, 2) := by decide +kernel
theorem dX12_taughtBy_27 : decode cX12_taughtBy 27 = .ok (.ishr, 1) := by decide +kernel
theorem dX12_taughtBy_28 : decode cX12_taughtBy 28 = .ok (.iconst 1, 1) := by decide +kernel
theorem dX12_taughtBy_29 : decode cX12_taughtBy 29 = .ok (.iand, 1) := by decide +kernel
theorem dX12_taughtBy_30 : decode cX12_taughtBy 30 = .ok (.ifCond .ne 30, 3) := by decide +kernel
theorem dX12_taughtBy_33 : decode cX12_taughtBy 33 = .ok (.iload_n 3, 1) := by decide +kernel
theorem dX12_taughtBy_34 : decode cX12_taughtBy 34 = .ok (.iconst 1, 1) := by decide +kernel
theorem dX12_taughtBy_35 : decode cX12_taughtBy 35 = .ok (.iload 4, 2) := by decide +kernel
theorem dX12_taughtBy_37 : decode cX12_taughtBy 37 = .ok (.ishl, 1) := by decide +kernel
theorem dX12_taughtBy_38 : decode cX12_taughtBy 38 = .ok (.ior, 1) := by decide +kernel
theorem dX12_taughtBy_39 : decode cX12_taughtBy 39 = .ok (.istore_n 3, 1) := by decide +kernel
theorem dX12_taughtBy_40 : decode cX12_taughtBy 40 = .ok (.aload_n 0, 1) := by decide +kernel
theorem dX12_taughtBy_41 : decode cX12_taughtBy 41 = .ok (.getfield 63, 3) := by decide +kernel
theorem dX12_taughtBy_44 : decode cX12_taughtBy 44 = .ok (.sipush 316, 3) := by decide +kernel
theorem dX12_taughtBy_47 : decode cX12_taughtBy 47 = .ok (.iconst 5, 1) := by decide +kernel
theorem dX12_taughtBy_48 : decode cX12_taughtBy 48 = .ok (.iload 4, 2) := by decide +kernel
theorem dX12_taughtBy_50 : decode cX12_taughtBy 50 = .ok (.imul, 1) := by decide +kernel
theorem dX12_taughtBy_51 : decode cX12_taughtBy 51 = .ok (.iadd, 1) := by decide +kernel
theorem dX12_taughtBy_52 : decode cX12_taughtBy 52 = .ok (.iload_n 2, 1) := by decide +kernel
theorem dX12_taughtBy_53 : decode cX12_taughtBy 53 = .ok (.iadd, 1) := by decide +kernel
theorem dX12_taughtBy_54 : decode cX12_taughtBy 54 = .ok (.iaload, 1) := by decide +kernel
theorem dX12_taughtBy_55 : decode cX12_taughtBy 55 = .ok (.istore 4, 2) := by decide +kernel
theorem dX12_taughtBy_57 : decode cX12_taughtBy 57 = .ok (.goto (-39), 3) := by decide +kernel
theorem dX12_taughtBy_60 : decode cX12_taughtBy 60 = .ok (.iload_n 3, 1) := by decide +kernel
theorem dX12_taughtBy_61 : decode cX12_taughtBy 61 = .ok (.ireturn, 1) := by decide +kernel
abbrev w_X12_taughtBy (E : gs_E) (a_t a_t_rows a_t_songLong a_t_firstNote a_t_wit a_t_code a_t_tape a_t_refused a_t_newSongLong a_t_newFirstNote a_t_newWit a_t_newRow a_t_readCode a_t_waits a_t_tested a_t_isTold a_t_ahead a_t_told a_t_pile a_t_common a_t_mostOf a_t_likes a_t_heard a_t_soon a_t_soonAll a_t_imageRow a_t_imageAhead a_t_imageHears : Nat) (v_t_thrown : Int32) (v_t_songs : Int32) (v_t_people : Int32) (v_t_forgetsAt : Int32) (v_t_fillsAt : Int32) (v_t_taped : Int32) (v_t_faultKind : Int32) (v_t_faultPlace : Int32) (v_t_long1 : Int32) (v_t_next0 : Int32) (v_t_sort : Int32) (v_t_place : Int32) (v_t_long0 : Int32) (v_t_value : Int32) (v_t_sign : Int32) (v_t_word : Int64) (v_t_newSongs : Int32) (v_t_newPeople : Int32) (v_t_newForgetsAt : Int32) (v_t_newFillsAt : Int32) (v_t_top : Int32) (v_t_firstValue : Int32) (v_t_lastValue : Int32) (v_t_waiting : Int32) (v_t_depth : Int32) (v_t_acts : Int32) (v_t_isWinter : Int32) (v_t_learntNow : Int32) (v_t_forgottenNow : Int32) (v_t_heardMany : Int32) (v_t_its0 : Int32) (v_t_hasImage : Int32) (v_t_imageActs : Int32) (v_t_imageHeard : Int32) (r_t_rows : Nat → Int32) : va_W := [(a_t, .inr (12, [.int v_t_thrown, .int v_t_songs, .int v_t_people, .int v_t_forgetsAt, .int v_t_fillsAt, .ref a_t_songLong, .ref a_t_firstNote, .ref a_t_wit, .ref a_t_code, .ref a_t_tape, .int v_t_taped, .int v_t_faultKind, .int v_t_faultPlace, .ref a_t_refused, .int v_t_long1, .int v_t_next0, .int v_t_sort, .int v_t_place, .int v_t_long0, .int v_t_value, .int v_t_sign, .long v_t_word, .int v_t_newSongs, .int v_t_newPeople, .int v_t_newForgetsAt, .int v_t_newFillsAt, .int v_t_top, .int v_t_firstValue, .int v_t_lastValue, .int v_t_waiting, .int v_t_depth, .ref a_t_newSongLong, .ref a_t_newFirstNote, .ref a_t_newWit, .ref a_t_newRow, .ref a_t_readCode, .ref a_t_waits, .ref a_t_tested, .ref a_t_isTold, .ref a_t_rows, .ref a_t_ahead, .int v_t_acts, .ref a_t_told, .ref a_t_pile, .int v_t_isWinter, .int v_t_learntNow, .int v_t_forgottenNow, .ref a_t_common, .ref a_t_mostOf, .ref a_t_likes, .int v_t_heardMany, .ref a_t_heard, .ref a_t_soon, .ref a_t_soonAll, .int v_t_its0, .int v_t_hasImage, .int v_t_imageActs, .int v_t_imageHeard, .ref a_t_imageRow, .ref a_t_imageAhead, .ref a_t_imageHears])), (a_t_rows, .inl (E.2.1, 744, .inl r_t_rows))]
abbrev rm_X12_taughtBy : Room := { frames := 0, cells := 0, slots := 0, locals := 0 }
def S_X12_taughtBy_18 (p : Program) (l : Launch) (e : Env) (s : State) (m : MethodId) (args : Array Value) (below : List Frame) (meth : Method) (c : Code) (Q : State → Prop) (a_t a_t_rows a_t_songLong a_t_firstNote a_t_wit a_t_code a_t_tape a_t_refused a_t_newSongLong a_t_newFirstNote a_t_newWit a_t_newRow a_t_readCode a_t_waits a_t_tested a_t_isTold a_t_ahead a_t_told a_t_pile a_t_common a_t_mostOf a_t_likes a_t_heard a_t_soon a_t_soonAll a_t_imageRow a_t_imageAhead a_t_imageHears : Nat) (x2 : Int32) (x3 : Int32) (x4 : Int32) : Prop := ∀ (ls : Array Slot), lv_has ls 5 [(0, .ref a_t), (2, .int x2), (3, .int x3), (4, .int x4)] → W p l e rm_X12_taughtBy s m args below meth c s.heap [] 0 0 Q (F0 m 18 ls [])
def f_X12_taughtBy_18 (x2 : Int32) (r_t_rows : Nat → Int32) (K18 : Int32 → Int32 → Option (Int32)) (x3 : Int32) (x4 : Int32) : Option (Int32) :=
  if x4 = (-1) then
    some x3
  else
    if ((x3 >>> (x4 &&& 31)) &&& 1) = 0 then
      gs_gd (gs_in ((316 + (5 * x4)) + x2) 744) <|
      K18 (x3 ||| (1 <<< (x4 &&& 31))) (r_t_rows ((316 + (5 * x4)) + x2).toNatClampNeg)
    else
      some x3
set_option maxHeartbeats 4000000 in
set_option maxRecDepth 100000 in
theorem t_X12_taughtBy_18_b {p : Program} {l : Launch} {e : Env} {s : State} {m : MethodId} {args : Array Value} {below : List Frame} {meth : Method} {c : Code} {Q : State → Prop} {E : gs_E} {a_t a_t_rows a_t_songLong a_t_firstNote a_t_wit a_t_code a_t_tape a_t_refused a_t_newSongLong a_t_newFirstNote a_t_newWit a_t_newRow a_t_readCode a_t_waits a_t_tested a_t_isTold a_t_ahead a_t_told a_t_pile a_t_common a_t_mostOf a_t_likes a_t_heard a_t_soon a_t_soonAll a_t_imageRow a_t_imageAhead a_t_imageHears : Nat} {v_t_thrown : Int32} {v_t_songs : Int32} {v_t_people : Int32} {v_t_forgetsAt : Int32} {v_t_fillsAt : Int32} {v_t_taped : Int32} {v_t_faultKind : Int32} {v_t_faultPlace : Int32} {v_t_long1 : Int32} {v_t_next0 : Int32} {v_t_sort : Int32} {v_t_place : Int32} {v_t_long0 : Int32} {v_t_value : Int32} {v_t_sign : Int32} {v_t_word : Int64} {v_t_newSongs : Int32} {v_t_newPeople : Int32} {v_t_newForgetsAt : Int32} {v_t_newFillsAt : Int32} {v_t_top : Int32} {v_t_firstValue : Int32} {v_t_lastValue : Int32} {v_t_waiting : Int32} {v_t_depth : Int32} {v_t_acts : Int32} {v_t_isWinter : Int32} {v_t_learntNow : Int32} {v_t_forgottenNow : Int32} {v_t_heardMany : Int32} {v_t_its0 : Int32} {v_t_hasImage : Int32} {v_t_imageActs : Int32} {v_t_imageHeard : Int32} {r_t_rows : Nat → Int32} {rr : Int32} (X0 : gs_X wsX12_taughtBy cX12_taughtBy RX12 5 (some .int) p s m args meth c) (hk : gs_K E s) (hP : va_P E.1 vwCl (w_X12_taughtBy E a_t a_t_rows a_t_songLong a_t_firstNote a_t_wit a_t_code a_t_tape a_t_refused a_t_newSongLong a_t_newFirstNote a_t_newWit a_t_newRow a_t_readCode a_t_waits a_t_tested a_t_isTold a_t_ahead a_t_told a_t_pile a_t_common a_t_mostOf a_t_likes a_t_heard a_t_soon a_t_soonAll a_t_imageRow a_t_imageAhead a_t_imageHears v_t_thrown v_t_songs v_t_people v_t_forgetsAt v_t_fillsAt v_t_taped v_t_faultKind v_t_faultPlace v_t_long1 v_t_next0 v_t_sort v_t_place v_t_long0 v_t_value v_t_sign v_t_word v_t_newSongs v_t_newPeople v_t_newForgetsAt v_t_newFillsAt v_t_top v_t_firstValue v_t_lastValue v_t_waiting v_t_depth v_t_acts v_t_isWinter v_t_learntNow v_t_forgottenNow v_t_heardMany v_t_its0 v_t_hasImage v_t_imageActs v_t_imageHeard r_t_rows) s.heap) (hD : va_D (fun _ => True) (w_X12_taughtBy E a_t a_t_rows a_t_songLong a_t_firstNote a_t_wit a_t_code a_t_tape a_t_refused a_t_newSongLong a_t_newFirstNote a_t_newWit a_t_newRow a_t_readCode a_t_waits a_t_tested a_t_isTold a_t_ahead a_t_told a_t_pile a_t_common a_t_mostOf a_t_likes a_t_heard a_t_soon a_t_soonAll a_t_imageRow a_t_imageAhead a_t_imageHears v_t_thrown v_t_songs v_t_people v_t_forgetsAt v_t_fillsAt v_t_taped v_t_faultKind v_t_faultPlace v_t_long1 v_t_next0 v_t_sort v_t_place v_t_long0 v_t_value v_t_sign v_t_word v_t_newSongs v_t_newPeople v_t_newForgetsAt v_t_newFillsAt v_t_top v_t_firstValue v_t_lastValue v_t_waiting v_t_depth v_t_acts v_t_isWinter v_t_learntNow v_t_forgottenNow v_t_heardMany v_t_its0 v_t_hasImage v_t_imageActs v_t_imageHeard r_t_rows)) {x2 : Int32} {x3 : Int32} {x4 : Int32} (hret : ∀ (pc : Nat) (ls : Array Slot), decode cX12_taughtBy pc = .ok (.ireturn, 1) → W p l e rm_X12_taughtBy s m args below meth c s.heap [] 0 0 Q (F0 m pc ls [.int rr])) {K18 : Int32 → Int32 → Option (Int32)} (hK18 : ∀ (x3 : Int32) (x4 : Int32), K18 x3 x4 = some rr → S_X12_taughtBy_18 p l e s m args below meth c Q a_t a_t_rows a_t_songLong a_t_firstNote a_t_wit a_t_code a_t_tape a_t_refused a_t_newSongLong a_t_newFirstNote a_t_newWit a_t_newRow a_t_readCode a_t_waits a_t_tested a_t_isTold a_t_ahead a_t_told a_t_pile a_t_common a_t_mostOf a_t_likes a_t_heard a_t_soon a_t_soonAll a_t_imageRow a_t_imageAhead a_t_imageHears x2 x3 x4) (h : f_X12_taughtBy_18 x2 r_t_rows K18 x3 x4 = some rr) : S_X12_taughtBy_18 p l e s m args below meth c Q a_t a_t_rows a_t_songLong a_t_firstNote a_t_wit a_t_code a_t_tape a_t_refused a_t_newSongLong a_t_newFirstNote a_t_newWit a_t_newRow a_t_readCode a_t_waits a_t_tested a_t_isTold a_t_ahead a_t_told a_t_pile a_t_common a_t_mostOf a_t_likes a_t_heard a_t_soon a_t_soonAll a_t_imageRow a_t_imageAhead a_t_imageHears x2 x3 x4 := by
  obtain ⟨hx, hb, hml, hown, hts, hr, hlk⟩ := id X0
  intro ls hl
  unfold f_X12_taughtBy_18 at h
  refine lv_iload hx hb dX12_taughtBy_18 (lv_at hl 3 rfl) ?_
  refine lv_iconst (v := (-1)) hx hb dX12_taughtBy_20 (by decide) ?_
  refine lv_icmp_eq (tgt := 60) hx hb dX12_taughtBy_21 (by decide) (fun c2 => ?_) (fun c2 => ?_)
  · replace h := gs_ift c2 h
    refine lv_iload_n hx hb dX12_taughtBy_60 rfl (lv_at hl 2 rfl) ?_
    have h := Option.some.inj h
    subst h
    exact hret _ _ dX12_taughtBy_61
  · replace h := gs_iff c2 h
    refine lv_iload_n hx hb dX12_taughtBy_24 rfl (lv_at hl 2 rfl) ?_
    refine lv_iload hx hb dX12_taughtBy_25 (lv_at hl 3 rfl) ?_
    refine lv_ishr hx hb dX12_taughtBy_27 ?_
    refine lv_iconst (v := 1) hx hb dX12_taughtBy_28 (by decide) ?_
    refine lv_iand hx hb dX12_taughtBy_29 ?_
    refine lv_if_ne (tgt := 60) hx hb dX12_taughtBy_30 (by decide) (fun c3 => ?_) (fun c3 => ?_)
    · replace h := gs_iff c3 h
      refine lv_iload_n hx hb dX12_taughtBy_60 rfl (lv_at hl 2 rfl) ?_
      have h := Option.some.inj h
      subst h
      exact hret _ _ dX12_taughtBy_61
    · replace h := gs_ift c3 h
      refine lv_iload_n hx hb dX12_taughtBy_33 rfl (lv_at hl 2 rfl) ?_
      refine lv_iconst (v := 1) hx hb dX12_taughtBy_34 (by decide) ?_
      refine lv_iload hx hb dX12_taughtBy_35 (lv_at hl 3 rfl) ?_
      refine lv_ishl hx hb dX12_taughtBy_37 ?_
      refine lv_ior hx hb dX12_taughtBy_38 ?_
      refine lv_istore_n (lv' := [(3, .int (x3 ||| (1 <<< (x4 &&& 31)))), (0, .ref a_t), (2, .int x2), (4, .int x4)]) hx hb dX12_taughtBy_39 rfl hl (by decide) rfl (fun ls hl => ?_)
      refine lv_aload_n hx hb dX12_taughtBy_40 rfl (lv_at hl 1 rfl) ?_
      refine va_get (D := E.1) (ci := 12) (v := .ref a_t_rows) (C := RX12) (T := TX12) (N := 61) hx hb hts (fun _ h => (List.mem_cons_of_mem _ (List.mem_append_right _ h))) hown hk.1 hP 0 rfl rfl 39 (by decide) (hts (.fieldLink RX12 63 "GapSongsModel" "rows" "[I") (List.mem_cons_of_mem _ (List.mem_append_left _ (List.mem_of_getElem? (i := 0) rfl)))) (fun _ h9 => h9) rfl dX12_taughtBy_41 ?_
      refine lv_sipush (v := 316) hx hb dX12_taughtBy_44 (by decide) ?_
      refine lv_iconst (v := 5) hx hb dX12_taughtBy_47 (by decide) ?_
      refine lv_iload hx hb dX12_taughtBy_48 (lv_at hl 3 rfl) ?_
      refine lv_imul hx hb dX12_taughtBy_50 ?_
      refine lv_iadd hx hb dX12_taughtBy_51 ?_
      refine lv_iload_n hx hb dX12_taughtBy_52 rfl (lv_at hl 2 rfl) ?_
      refine lv_iadd hx hb dX12_taughtBy_53 ?_
      obtain ⟨g4, h⟩ := gs_gd_e h
      refine va_iald hx hb hk.1 hP 1 0 rfl rfl (gs_in_e g4) dX12_taughtBy_54 ?_
      refine lv_istore (lv' := [(4, .int (r_t_rows ((316 + (5 * x4)) + x2).toNatClampNeg)), (3, .int (x3 ||| (1 <<< (x4 &&& 31)))), (0, .ref a_t), (2, .int x2)]) hx hb dX12_taughtBy_55 hl (by decide) rfl (fun ls hl => ?_)
      refine lv_goto (tgt := 18) hx hb dX12_taughtBy_57 (by decide) ?_
      exact hK18 (x3 ||| (1 <<< (x4 &&& 31))) (r_t_rows ((316 + (5 * x4)) + x2).toNatClampNeg) h _ (lv_sub hl [2, 3, 1, 0] rfl)
set_option maxHeartbeats 4000000 in
set_option maxRecDepth 100000 in
theorem t_X12_taughtBy_18_n {p : Program} {l : Launch} {e : Env} {s : State} {m : MethodId} {args : Array Value} {below : List Frame} {meth : Method} {c : Code} {Q : State → Prop} {E : gs_E} {a_t a_t_rows a_t_songLong a_t_firstNote a_t_wit a_t_code a_t_tape a_t_refused a_t_newSongLong a_t_newFirstNote a_t_newWit a_t_newRow a_t_readCode a_t_waits a_t_tested a_t_isTold a_t_ahead a_t_told a_t_pile a_t_common a_t_mostOf a_t_likes a_t_heard a_t_soon a_t_soonAll a_t_imageRow a_t_imageAhead a_t_imageHears : Nat} {v_t_thrown : Int32} {v_t_songs : Int32} {v_t_people : Int32} {v_t_forgetsAt : Int32} {v_t_fillsAt : Int32} {v_t_taped : Int32} {v_t_faultKind : Int32} {v_t_faultPlace : Int32} {v_t_long1 : Int32} {v_t_next0 : Int32} {v_t_sort : Int32} {v_t_place : Int32} {v_t_long0 : Int32} {v_t_value : Int32} {v_t_sign : Int32} {v_t_word : Int64} {v_t_newSongs : Int32} {v_t_newPeople : Int32} {v_t_newForgetsAt : Int32} {v_t_newFillsAt : Int32} {v_t_top : Int32} {v_t_firstValue : Int32} {v_t_lastValue : Int32} {v_t_waiting : Int32} {v_t_depth : Int32} {v_t_acts : Int32} {v_t_isWinter : Int32} {v_t_learntNow : Int32} {v_t_forgottenNow : Int32} {v_t_heardMany : Int32} {v_t_its0 : Int32} {v_t_hasImage : Int32} {v_t_imageActs : Int32} {v_t_imageHeard : Int32} {r_t_rows : Nat → Int32} {rr : Int32} (X0 : gs_X wsX12_taughtBy cX12_taughtBy RX12 5 (some .int) p s m args meth c) (hk : gs_K E s) (hP : va_P E.1 vwCl (w_X12_taughtBy E a_t a_t_rows a_t_songLong a_t_firstNote a_t_wit a_t_code a_t_tape a_t_refused a_t_newSongLong a_t_newFirstNote a_t_newWit a_t_newRow a_t_readCode a_t_waits a_t_tested a_t_isTold a_t_ahead a_t_told a_t_pile a_t_common a_t_mostOf a_t_likes a_t_heard a_t_soon a_t_soonAll a_t_imageRow a_t_imageAhead a_t_imageHears v_t_thrown v_t_songs v_t_people v_t_forgetsAt v_t_fillsAt v_t_taped v_t_faultKind v_t_faultPlace v_t_long1 v_t_next0 v_t_sort v_t_place v_t_long0 v_t_value v_t_sign v_t_word v_t_newSongs v_t_newPeople v_t_newForgetsAt v_t_newFillsAt v_t_top v_t_firstValue v_t_lastValue v_t_waiting v_t_depth v_t_acts v_t_isWinter v_t_learntNow v_t_forgottenNow v_t_heardMany v_t_its0 v_t_hasImage v_t_imageActs v_t_imageHeard r_t_rows) s.heap) (hD : va_D (fun _ => True) (w_X12_taughtBy E a_t a_t_rows a_t_songLong a_t_firstNote a_t_wit a_t_code a_t_tape a_t_refused a_t_newSongLong a_t_newFirstNote a_t_newWit a_t_newRow a_t_readCode a_t_waits a_t_tested a_t_isTold a_t_ahead a_t_told a_t_pile a_t_common a_t_mostOf a_t_likes a_t_heard a_t_soon a_t_soonAll a_t_imageRow a_t_imageAhead a_t_imageHears v_t_thrown v_t_songs v_t_people v_t_forgetsAt v_t_fillsAt v_t_taped v_t_faultKind v_t_faultPlace v_t_long1 v_t_next0 v_t_sort v_t_place v_t_long0 v_t_value v_t_sign v_t_word v_t_newSongs v_t_newPeople v_t_newForgetsAt v_t_newFillsAt v_t_top v_t_firstValue v_t_lastValue v_t_waiting v_t_depth v_t_acts v_t_isWinter v_t_learntNow v_t_forgottenNow v_t_heardMany v_t_its0 v_t_hasImage v_t_imageActs v_t_imageHeard r_t_rows)) {x2 : Int32} (hret : ∀ (pc : Nat) (ls : Array Slot), decode cX12_taughtBy pc = .ok (.ireturn, 1) → W p l e rm_X12_taughtBy s m args below meth c s.heap [] 0 0 Q (F0 m pc ls [.int rr])) : ∀ (n : Nat) (x3 : Int32) (x4 : Int32), gs_it (fun _ _ => none) (f_X12_taughtBy_18 x2 r_t_rows) n x3 x4 = some rr → S_X12_taughtBy_18 p l e s m args below meth c Q a_t a_t_rows a_t_songLong a_t_firstNote a_t_wit a_t_code a_t_tape a_t_refused a_t_newSongLong a_t_newFirstNote a_t_newWit a_t_newRow a_t_readCode a_t_waits a_t_tested a_t_isTold a_t_ahead a_t_told a_t_pile a_t_common a_t_mostOf a_t_likes a_t_heard a_t_soon a_t_soonAll a_t_imageRow a_t_imageAhead a_t_imageHears x2 x3 x4 := by
  intro n
  induction n with
  | zero =>
    intro x3 x4 h
    have h : (none : Option (Int32)) = some rr := h
    cases h
  | succ n ih =>
    intro x3 x4 h
    exact t_X12_taughtBy_18_b X0 hk hP hD hret  (K18 := gs_it (fun _ _ => none) (f_X12_taughtBy_18 x2 r_t_rows) n) (hK18 := ih) (h := h)
theorem t_X12_taughtBy_18 {p : Program} {l : Launch} {e : Env} {s : State} {m : MethodId} {args : Array Value} {below : List Frame} {meth : Method} {c : Code} {Q : State → Prop} {E : gs_E} {a_t a_t_rows a_t_songLong a_t_firstNote a_t_wit a_t_code a_t_tape a_t_refused a_t_newSongLong a_t_newFirstNote a_t_newWit a_t_newRow a_t_readCode a_t_waits a_t_tested a_t_isTold a_t_ahead a_t_told a_t_pile a_t_common a_t_mostOf a_t_likes a_t_heard a_t_soon a_t_soonAll a_t_imageRow a_t_imageAhead a_t_imageHears : Nat} {v_t_thrown : Int32} {v_t_songs : Int32} {v_t_people : Int32} {v_t_forgetsAt : Int32} {v_t_fillsAt : Int32} {v_t_taped : Int32} {v_t_faultKind : Int32} {v_t_faultPlace : Int32} {v_t_long1 : Int32} {v_t_next0 : Int32} {v_t_sort : Int32} {v_t_place : Int32} {v_t_long0 : Int32} {v_t_value : Int32} {v_t_sign : Int32} {v_t_word : Int64} {v_t_newSongs : Int32} {v_t_newPeople : Int32} {v_t_newForgetsAt : Int32} {v_t_newFillsAt : Int32} {v_t_top : Int32} {v_t_firstValue : Int32} {v_t_lastValue : Int32} {v_t_waiting : Int32} {v_t_depth : Int32} {v_t_acts : Int32} {v_t_isWinter : Int32} {v_t_learntNow : Int32} {v_t_forgottenNow : Int32} {v_t_heardMany : Int32} {v_t_its0 : Int32} {v_t_hasImage : Int32} {v_t_imageActs : Int32} {v_t_imageHeard : Int32} {r_t_rows : Nat → Int32} {rr : Int32} (X0 : gs_X wsX12_taughtBy cX12_taughtBy RX12 5 (some .int) p s m args meth c) (hk : gs_K E s) (hP : va_P E.1 vwCl (w_X12_taughtBy E a_t a_t_rows a_t_songLong a_t_firstNote a_t_wit a_t_code a_t_tape a_t_refused a_t_newSongLong a_t_newFirstNote a_t_newWit a_t_newRow a_t_readCode a_t_waits a_t_tested a_t_isTold a_t_ahead a_t_told a_t_pile a_t_common a_t_mostOf a_t_likes a_t_heard a_t_soon a_t_soonAll a_t_imageRow a_t_imageAhead a_t_imageHears v_t_thrown v_t_songs v_t_people v_t_forgetsAt v_t_fillsAt v_t_taped v_t_faultKind v_t_faultPlace v_t_long1 v_t_next0 v_t_sort v_t_place v_t_long0 v_t_value v_t_sign v_t_word v_t_newSongs v_t_newPeople v_t_newForgetsAt v_t_newFillsAt v_t_top v_t_firstValue v_t_lastValue v_t_waiting v_t_depth v_t_acts v_t_isWinter v_t_learntNow v_t_forgottenNow v_t_heardMany v_t_its0 v_t_hasImage v_t_imageActs v_t_imageHeard r_t_rows) s.heap) (hD : va_D (fun _ => True) (w_X12_taughtBy E a_t a_t_rows a_t_songLong a_t_firstNote a_t_wit a_t_code a_t_tape a_t_refused a_t_newSongLong a_t_newFirstNote a_t_newWit a_t_newRow a_t_readCode a_t_waits a_t_tested a_t_isTold a_t_ahead a_t_told a_t_pile a_t_common a_t_mostOf a_t_likes a_t_heard a_t_soon a_t_soonAll a_t_imageRow a_t_imageAhead a_t_imageHears v_t_thrown v_t_songs v_t_people v_t_forgetsAt v_t_fillsAt v_t_taped v_t_faultKind v_t_faultPlace v_t_long1 v_t_next0 v_t_sort v_t_place v_t_long0 v_t_value v_t_sign v_t_word v_t_newSongs v_t_newPeople v_t_newForgetsAt v_t_newFillsAt v_t_top v_t_firstValue v_t_lastValue v_t_waiting v_t_depth v_t_acts v_t_isWinter v_t_learntNow v_t_forgottenNow v_t_heardMany v_t_its0 v_t_hasImage v_t_imageActs v_t_imageHeard r_t_rows)) {x2 : Int32} {x3 : Int32} {x4 : Int32} (hret : ∀ (pc : Nat) (ls : Array Slot), decode cX12_taughtBy pc = .ok (.ireturn, 1) → W p l e rm_X12_taughtBy s m args below meth c s.heap [] 0 0 Q (F0 m pc ls [.int rr])) (h : gs_it (fun _ _ => none) (f_X12_taughtBy_18 x2 r_t_rows) gs_fuel x3 x4 = some rr) : S_X12_taughtBy_18 p l e s m args below meth c Q a_t a_t_rows a_t_songLong a_t_firstNote a_t_wit a_t_code a_t_tape a_t_refused a_t_newSongLong a_t_newFirstNote a_t_newWit a_t_newRow a_t_readCode a_t_waits a_t_tested a_t_isTold a_t_ahead a_t_told a_t_pile a_t_common a_t_mostOf a_t_likes a_t_heard a_t_soon a_t_soonAll a_t_imageRow a_t_imageAhead a_t_imageHears x2 x3 x4 :=
  t_X12_taughtBy_18_n X0 hk hP hD hret  gs_fuel x3 x4 h
def f_X12_taughtBy (x1 : Int32) (x2 : Int32) (r_t_rows : Nat → Int32) : Option (Int32) :=
  gs_gd (gs_in ((316 + (5 * x1)) + x2) 744) <|
  gs_it (fun _ _ => none) (f_X12_taughtBy_18 x2 r_t_rows) gs_fuel 0 (r_t_rows ((316 + (5 * x1)) + x2).toNatClampNeg)
set_option maxHeartbeats 4000000 in
set_option maxRecDepth 100000 in
theorem c_X12_taughtBy (l : Launch) (E : gs_E) (a_t a_t_rows a_t_songLong a_t_firstNote a_t_wit a_t_code a_t_tape a_t_refused a_t_newSongLong a_t_newFirstNote a_t_newWit a_t_newRow a_t_readCode a_t_waits a_t_tested a_t_isTold a_t_ahead a_t_told a_t_pile a_t_common a_t_mostOf a_t_likes a_t_heard a_t_soon a_t_soonAll a_t_imageRow a_t_imageAhead a_t_imageHears : Nat) (v_t_thrown : Int32) (v_t_songs : Int32) (v_t_people : Int32) (v_t_forgetsAt : Int32) (v_t_fillsAt : Int32) (v_t_taped : Int32) (v_t_faultKind : Int32) (v_t_faultPlace : Int32) (v_t_long1 : Int32) (v_t_next0 : Int32) (v_t_sort : Int32) (v_t_place : Int32) (v_t_long0 : Int32) (v_t_value : Int32) (v_t_sign : Int32) (v_t_word : Int64) (v_t_newSongs : Int32) (v_t_newPeople : Int32) (v_t_newForgetsAt : Int32) (v_t_newFillsAt : Int32) (v_t_top : Int32) (v_t_firstValue : Int32) (v_t_lastValue : Int32) (v_t_waiting : Int32) (v_t_depth : Int32) (v_t_acts : Int32) (v_t_isWinter : Int32) (v_t_learntNow : Int32) (v_t_forgottenNow : Int32) (v_t_heardMany : Int32) (v_t_its0 : Int32) (v_t_hasImage : Int32) (v_t_imageActs : Int32) (v_t_imageHeard : Int32) (r_t_rows : Nat → Int32) (x1 : Int32) (x2 : Int32) (rr : Int32) (h : f_X12_taughtBy x1 x2 r_t_rows = some rr) : gs_MR l yX12_taughtBy wsX12_taughtBy rm_X12_taughtBy [.ref a_t, .int x1, .int x2] E (w_X12_taughtBy E a_t a_t_rows a_t_songLong a_t_firstNote a_t_wit a_t_code a_t_tape a_t_refused a_t_newSongLong a_t_newFirstNote a_t_newWit a_t_newRow a_t_readCode a_t_waits a_t_tested a_t_isTold a_t_ahead a_t_told a_t_pile a_t_common a_t_mostOf a_t_likes a_t_heard a_t_soon a_t_soonAll a_t_imageRow a_t_imageAhead a_t_imageHears v_t_thrown v_t_songs v_t_people v_t_forgetsAt v_t_fillsAt v_t_taped v_t_faultKind v_t_faultPlace v_t_long1 v_t_next0 v_t_sort v_t_place v_t_long0 v_t_value v_t_sign v_t_word v_t_newSongs v_t_newPeople v_t_newForgetsAt v_t_newFillsAt v_t_top v_t_firstValue v_t_lastValue v_t_waiting v_t_depth v_t_acts v_t_isWinter v_t_learntNow v_t_forgottenNow v_t_heardMany v_t_its0 v_t_hasImage v_t_imageActs v_t_imageHeard r_t_rows) (some (.int rr)) := by
  refine Met.ofW (cc := cX12_taughtBy) (maxL := 5) (ret := (some .int)) (by decide) rfl ?_
  intro p e s m args below meth c s₁ B hml hv
  obtain ⟨rfl, hP, hk, hD0⟩ := hv
  have X0 : gs_X wsX12_taughtBy cX12_taughtBy RX12 5 (some .int) p s m ([.ref a_t, .int x1, .int x2] : List Value).toArray meth c := gs_X.of B hml
  obtain ⟨hx, hb, -, hown, hts, hr, hlk⟩ := id X0
  have hD := hD0
  have hret : ∀ (pc : Nat) (ls : Array Slot), decode cX12_taughtBy pc = .ok (.ireturn, 1) → W p l e rm_X12_taughtBy s m ([.ref a_t, .int x1, .int x2] : List Value).toArray below meth c s.heap [] 0 0 (MQ below (gs_QR (some (.int rr))) ([.ref a_t, .int x1, .int x2] : List Value).toArray s 0 0 (fun _ => False)) (F0 m pc ls [.int rr]) := fun pc ls hd => W.iret hx hb hr (fun t ht hW => ⟨rfl, ht⟩) (fun q hq => by cases hq) hd
  have hl := lv_entry ([.ref a_t, .int x1, .int x2]) (n := 5) (Nat.le_of_ble_eq_true rfl)
  rw [lg_entry_eq]
  generalize (lg_sl ([.ref a_t, .int x1, .int x2]) ++ List.replicate (5 - (lg_sl ([.ref a_t, .int x1, .int x2])).length) Slot.unset).toArray = ls at hl ⊢
  have hl : lv_has ls 5 [(0, .ref a_t), (1, .int x1), (2, .int x2)] := hl
  unfold f_X12_taughtBy at h
  refine lv_iconst (v := 0) hx hb dX12_taughtBy_0 (by decide) ?_
  refine lv_istore_n (lv' := [(3, .int 0), (0, .ref a_t), (1, .int x1), (2, .int x2)]) hx hb dX12_taughtBy_1 rfl hl (by decide) rfl (fun ls hl => ?_)
  refine lv_aload_n hx hb dX12_taughtBy_2 rfl (lv_at hl 1 rfl) ?_
  refine va_get (D := E.1) (ci := 12) (v := .ref a_t_rows) (C := RX12) (T := TX12) (N := 61) hx hb hts (fun _ h => (List.mem_cons_of_mem _ (List.mem_append_right _ h))) hown hk.1 hP 0 rfl rfl 39 (by decide) (hts (.fieldLink RX12 63 "GapSongsModel" "rows" "[I") (List.mem_cons_of_mem _ (List.mem_append_left _ (List.mem_of_getElem? (i := 0) rfl)))) (fun _ h9 => h9) rfl dX12_taughtBy_3 ?_
  refine lv_sipush (v := 316) hx hb dX12_taughtBy_6 (by decide) ?_
  refine lv_iconst (v := 5) hx hb dX12_taughtBy_9 (by decide) ?_
  refine lv_iload_n hx hb dX12_taughtBy_10 rfl (lv_at hl 2 rfl) ?_
  refine lv_imul hx hb dX12_taughtBy_11 ?_
  refine lv_iadd hx hb dX12_taughtBy_12 ?_
  refine lv_iload_n hx hb dX12_taughtBy_13 rfl (lv_at hl 3 rfl) ?_
  refine lv_iadd hx hb dX12_taughtBy_14 ?_
  obtain ⟨g1, h⟩ := gs_gd_e h
  refine va_iald hx hb hk.1 hP 1 0 rfl rfl (gs_in_e g1) dX12_taughtBy_15 ?_
  refine lv_istore (lv' := [(4, .int (r_t_rows ((316 + (5 * x1)) + x2).toNatClampNeg)), (3, .int 0), (0, .ref a_t), (1, .int x1), (2, .int x2)]) hx hb dX12_taughtBy_16 hl (by decide) rfl (fun ls hl => ?_)
  exact t_X12_taughtBy_18 X0 hk hP hD hret  (h := h) _ (lv_sub hl [2, 4, 1, 0] rfl)

theorem dX12_origin_0 : decode cX12_origin 0 = .ok (.iload_n 1, 1) := by decide +kernel
theorem dX12_origin_1 : decode cX12_origin 1 = .ok (.istore_n 3, 1) := by decide +kernel
theorem dX12_origin_2 : decode cX12_origin 2 = .ok (.iconst 0, 1) := by decide +kernel
theorem dX12_origin_3 : decode cX12_origin 3 = .ok (.istore 4, 2) := by decide +kernel
theorem dX12_origin_5 : decode cX12_origin 5 = .ok (.iload 4, 2) := by decide +kernel
theorem dX12_origin_7 : decode cX12_origin 7 = .ok (.aload_n 0, 1) := by decide +kernel
theorem dX12_origin_8 : decode cX12_origin 8 = .ok (.getfield 276, 3) := by decide +kernel
theorem dX12_origin_11 : decode cX12_origin 11 = .ok (.if_icmp .ge 50, 3) := by decide +kernel
theorem dX12_origin_14 : decode cX12_origin 14 = .ok (.aload_n 0, 1) := by decide +kernel
theorem dX12_origin_15 : decode cX12_origin 15 = .ok (.getfield 63, 3) := by decide +kernel
theorem dX12_origin_18 : decode cX12_origin 18 = .ok (.sipush 316, 3) := by decide +kernel
theorem dX12_origin_21 : decode cX12_origin 21 = .ok (.iconst 5, 1) := by decide +kernel
theorem dX12_origin_22 : decode cX12_origin 22 = .ok (.iload_n 3, 1) := by decide +kernel
theorem dX12_origin_23 : decode cX12_origin 23 = .ok (.imul, 1) := by decide +kernel
theorem dX12_origin_24 : decode cX12_origin 24 = .ok (.iadd, 1) := by decide +kernel
theorem dX12_origin_25 : decode cX12_origin 25 = .ok (.iload_n 2, 1) := by decide +kernel
theorem dX12_origin_26 : decode cX12_origin 26 = .ok (.iadd, 1) := by decide +kernel
theorem dX12_origin_27 : decode cX12_origin 27 = .ok (.iaload, 1) := by decide +kernel
theorem dX12_origin_28 : decode cX12_origin 28 = .ok (.istore 5, 2) := by decide +kernel
theorem dX12_origin_30 : decode cX12_origin 30 = .ok (.iload 5, 2) := by decide +kernel
theorem dX12_origin_32 : decode cX12_origin 32 = .ok (.iconst (-1), 1) := by decide +kernel
theorem dX12_origin_33 : decode cX12_origin 33 = .ok (.if_icmp .ne 19, 3) := by decide +kernel
theorem dX12_origin_36 : decode cX12_origin 36 = .ok (.iload_n 3, 1) := by decide +kernel
theorem dX12_origin_37 : decode cX12_origin 37 = .ok (.iload_n 1, 1) := by decide +kernel
theorem dX12_origin_38 : decode cX12_origin 38 = .ok (.if_icmp .ne 12, 3) := by decide +kernel
theorem dX12_origin_41 : decode cX12_origin 41 = .ok (.iload 4, 2) := by decide +kernel
theorem dX12_origin_43 : decode cX12_origin 43 = .ok (.ifCond .ne 7, 3) := by decide +kernel
theorem dX12_origin_46 : decode cX12_origin 46 = .ok (.iconst (-1), 1) := by decide +kernel
theorem dX12_origin_47 : decode cX12_origin 47 = .ok (.goto 4, 3) := by decide +kernel
theorem dX12_origin_50 : decode cX12_origin 50 = .ok (.iload_n 3, 1) := by decide +kernel
theorem dX12_origin_51 : decode cX12_origin 51 = .ok (.ireturn, 1) := by decide +kernel
theorem dX12_origin_52 : decode cX12_origin 52 = .ok (.iload 5, 2) := by decide +kernel
theorem dX12_origin_54 : decode cX12_origin 54 = .ok (.istore_n 3, 1) := by decide +kernel
theorem dX12_origin_55 : decode cX12_origin 55 = .ok (.iinc 4 1, 3) := by decide +kernel
theorem dX12_origin_58 : decode cX12_origin 58 = .ok (.goto (-53), 3) := by decide +kernel
theorem dX12_origin_61 : decode cX12_origin 61 = .ok (.iconst (-1), 1) := by decide +kernel
theorem dX12_origin_62 : decode cX12_origin 62 = .ok (.ireturn, 1) := by decide +kernel
abbrev w_X12_origin (E : gs_E) (a_t a_t_rows a_t_songLong a_t_firstNote a_t_wit a_t_code a_t_tape a_t_refused a_t_newSongLong a_t_newFirstNote a_t_newWit a_t_newRow a_t_readCode a_t_waits a_t_tested a_t_isTold a_t_ahead a_t_told a_t_pile a_t_common a_t_mostOf a_t_likes a_t_heard a_t_soon a_t_soonAll a_t_imageRow a_t_imageAhead a_t_imageHears : Nat) (v_t_thrown : Int32) (v_t_songs : Int32) (v_t_people : Int32) (v_t_forgetsAt : Int32) (v_t_fillsAt : Int32) (v_t_taped : Int32) (v_t_faultKind : Int32) (v_t_faultPlace : Int32) (v_t_long1 : Int32) (v_t_next0 : Int32) (v_t_sort : Int32) (v_t_place : Int32) (v_t_long0 : Int32) (v_t_value : Int32) (v_t_sign : Int32) (v_t_word : Int64) (v_t_newSongs : Int32) (v_t_newPeople : Int32) (v_t_newForgetsAt : Int32) (v_t_newFillsAt : Int32) (v_t_top : Int32) (v_t_firstValue : Int32) (v_t_lastValue : Int32) (v_t_waiting : Int32) (v_t_depth : Int32) (v_t_acts : Int32) (v_t_isWinter : Int32) (v_t_learntNow : Int32) (v_t_forgottenNow : Int32) (v_t_heardMany : Int32) (v_t_its0 : Int32) (v_t_hasImage : Int32) (v_t_imageActs : Int32) (v_t_imageHeard : Int32) (r_t_rows : Nat → Int32) : va_W := [(a_t, .inr (12, [.int v_t_thrown, .int v_t_songs, .int v_t_people, .int v_t_forgetsAt, .int v_t_fillsAt, .ref a_t_songLong, .ref a_t_firstNote, .ref a_t_wit, .ref a_t_code, .ref a_t_tape, .int v_t_taped, .int v_t_faultKind, .int v_t_faultPlace, .ref a_t_refused, .int v_t_long1, .int v_t_next0, .int v_t_sort, .int v_t_place, .int v_t_long0, .int v_t_value, .int v_t_sign, .long v_t_word, .int v_t_newSongs, .int v_t_newPeople, .int v_t_newForgetsAt, .int v_t_newFillsAt, .int v_t_top, .int v_t_firstValue, .int v_t_lastValue, .int v_t_waiting, .int v_t_depth, .ref a_t_newSongLong, .ref a_t_newFirstNote, .ref a_t_newWit, .ref a_t_newRow, .ref a_t_readCode, .ref a_t_waits, .ref a_t_tested, .ref a_t_isTold, .ref a_t_rows, .ref a_t_ahead, .int v_t_acts, .ref a_t_told, .ref a_t_pile, .int v_t_isWinter, .int v_t_learntNow, .int v_t_forgottenNow, .ref a_t_common, .ref a_t_mostOf, .ref a_t_likes, .int v_t_heardMany, .ref a_t_heard, .ref a_t_soon, .ref a_t_soonAll, .int v_t_its0, .int v_t_hasImage, .int v_t_imageActs, .int v_t_imageHeard, .ref a_t_imageRow, .ref a_t_imageAhead, .ref a_t_imageHears])), (a_t_rows, .inl (E.2.1, 744, .inl r_t_rows))]
abbrev rm_X12_origin : Room := { frames := 0, cells := 0, slots := 0, locals := 0 }
def S_X12_origin_5 (p : Program) (l : Launch) (e : Env) (s : State) (m : MethodId) (args : Array Value) (below : List Frame) (meth : Method) (c : Code) (Q : State → Prop) (a_t a_t_rows a_t_songLong a_t_firstNote a_t_wit a_t_code a_t_tape a_t_refused a_t_newSongLong a_t_newFirstNote a_t_newWit a_t_newRow a_t_readCode a_t_waits a_t_tested a_t_isTold a_t_ahead a_t_told a_t_pile a_t_common a_t_mostOf a_t_likes a_t_heard a_t_soon a_t_soonAll a_t_imageRow a_t_imageAhead a_t_imageHears : Nat) (x1 : Int32) (x2 : Int32) (x3 : Int32) (x4 : Int32) : Prop := ∀ (ls : Array Slot), lv_has ls 6 [(0, .ref a_t), (1, .int x1), (2, .int x2), (3, .int x3), (4, .int x4)] → W p l e rm_X12_origin s m args below meth c s.heap [] 0 0 Q (F0 m 5 ls [])
def S_X12_origin_36 (p : Program) (l : Launch) (e : Env) (s : State) (m : MethodId) (args : Array Value) (below : List Frame) (meth : Method) (c : Code) (Q : State → Prop) (a_t a_t_rows a_t_songLong a_t_firstNote a_t_wit a_t_code a_t_tape a_t_refused a_t_newSongLong a_t_newFirstNote a_t_newWit a_t_newRow a_t_readCode a_t_waits a_t_tested a_t_isTold a_t_ahead a_t_told a_t_pile a_t_common a_t_mostOf a_t_likes a_t_heard a_t_soon a_t_soonAll a_t_imageRow a_t_imageAhead a_t_imageHears : Nat) (x1 : Int32) (x3 : Int32) (x4 : Int32) : Prop := ∀ (ls : Array Slot), lv_has ls 6 [(1, .int x1), (3, .int x3), (4, .int x4)] → W p l e rm_X12_origin s m args below meth c s.heap [] 0 0 Q (F0 m 36 ls [])
def f_X12_origin_5 (x1 : Int32) (x2 : Int32) (v_t_people : Int32) (r_t_rows : Nat → Int32) (K36 : Int32 → Int32 → Option (Int32)) (K5 : Int32 → Int32 → Option (Int32)) (x3 : Int32) (x4 : Int32) : Option (Int32) :=
  if v_t_people ≤ x4 then
    some (-1)
  else
    gs_gd (gs_in ((316 + (5 * x3)) + x2) 744) <|
    if (r_t_rows ((316 + (5 * x3)) + x2).toNatClampNeg) = (-1) then
      K36 x3 x4
    else
      K5 (r_t_rows ((316 + (5 * x3)) + x2).toNatClampNeg) (x4 + 1)
set_option maxHeartbeats 4000000 in
set_option maxRecDepth 100000 in
theorem t_X12_origin_5_b {p : Program} {l : Launch} {e : Env} {s : State} {m : MethodId} {args : Array Value} {below : List Frame} {meth : Method} {c : Code} {Q : State → Prop} {E : gs_E} {a_t a_t_rows a_t_songLong a_t_firstNote a_t_wit a_t_code a_t_tape a_t_refused a_t_newSongLong a_t_newFirstNote a_t_newWit a_t_newRow a_t_readCode a_t_waits a_t_tested a_t_isTold a_t_ahead a_t_told a_t_pile a_t_common a_t_mostOf a_t_likes a_t_heard a_t_soon a_t_soonAll a_t_imageRow a_t_imageAhead a_t_imageHears : Nat} {v_t_thrown : Int32} {v_t_songs : Int32} {v_t_people : Int32} {v_t_forgetsAt : Int32} {v_t_fillsAt : Int32} {v_t_taped : Int32} {v_t_faultKind : Int32} {v_t_faultPlace : Int32} {v_t_long1 : Int32} {v_t_next0 : Int32} {v_t_sort : Int32} {v_t_place : Int32} {v_t_long0 : Int32} {v_t_value : Int32} {v_t_sign : Int32} {v_t_word : Int64} {v_t_newSongs : Int32} {v_t_newPeople : Int32} {v_t_newForgetsAt : Int32} {v_t_newFillsAt : Int32} {v_t_top : Int32} {v_t_firstValue : Int32} {v_t_lastValue : Int32} {v_t_waiting : Int32} {v_t_depth : Int32} {v_t_acts : Int32} {v_t_isWinter : Int32} {v_t_learntNow : Int32} {v_t_forgottenNow : Int32} {v_t_heardMany : Int32} {v_t_its0 : Int32} {v_t_hasImage : Int32} {v_t_imageActs : Int32} {v_t_imageHeard : Int32} {r_t_rows : Nat → Int32} {rr : Int32} (X0 : gs_X wsX12_origin cX12_origin RX12 6 (some .int) p s m args meth c) (hk : gs_K E s) (hP : va_P E.1 vwCl (w_X12_origin E a_t a_t_rows a_t_songLong a_t_firstNote a_t_wit a_t_code a_t_tape a_t_refused a_t_newSongLong a_t_newFirstNote a_t_newWit a_t_newRow a_t_readCode a_t_waits a_t_tested a_t_isTold a_t_ahead a_t_told a_t_pile a_t_common a_t_mostOf a_t_likes a_t_heard a_t_soon a_t_soonAll a_t_imageRow a_t_imageAhead a_t_imageHears v_t_thrown v_t_songs v_t_people v_t_forgetsAt v_t_fillsAt v_t_taped v_t_faultKind v_t_faultPlace v_t_long1 v_t_next0 v_t_sort v_t_place v_t_long0 v_t_value v_t_sign v_t_word v_t_newSongs v_t_newPeople v_t_newForgetsAt v_t_newFillsAt v_t_top v_t_firstValue v_t_lastValue v_t_waiting v_t_depth v_t_acts v_t_isWinter v_t_learntNow v_t_forgottenNow v_t_heardMany v_t_its0 v_t_hasImage v_t_imageActs v_t_imageHeard r_t_rows) s.heap) (hD : va_D (fun _ => True) (w_X12_origin E a_t a_t_rows a_t_songLong a_t_firstNote a_t_wit a_t_code a_t_tape a_t_refused a_t_newSongLong a_t_newFirstNote a_t_newWit a_t_newRow a_t_readCode a_t_waits a_t_tested a_t_isTold a_t_ahead a_t_told a_t_pile a_t_common a_t_mostOf a_t_likes a_t_heard a_t_soon a_t_soonAll a_t_imageRow a_t_imageAhead a_t_imageHears v_t_thrown v_t_songs v_t_people v_t_forgetsAt v_t_fillsAt v_t_taped v_t_faultKind v_t_faultPlace v_t_long1 v_t_next0 v_t_sort v_t_place v_t_long0 v_t_value v_t_sign v_t_word v_t_newSongs v_t_newPeople v_t_newForgetsAt v_t_newFillsAt v_t_top v_t_firstValue v_t_lastValue v_t_waiting v_t_depth v_t_acts v_t_isWinter v_t_learntNow v_t_forgottenNow v_t_heardMany v_t_its0 v_t_hasImage v_t_imageActs v_t_imageHeard r_t_rows)) {x1 : Int32} {x2 : Int32} {x3 : Int32} {x4 : Int32} (hret : ∀ (pc : Nat) (ls : Array Slot), decode cX12_origin pc = .ok (.ireturn, 1) → W p l e rm_X12_origin s m args below meth c s.heap [] 0 0 Q (F0 m pc ls [.int rr])) {K36 : Int32 → Int32 → Option (Int32)} (hK36 : ∀ (x3 : Int32) (x4 : Int32), K36 x3 x4 = some rr → S_X12_origin_36 p l e s m args below meth c Q a_t a_t_rows a_t_songLong a_t_firstNote a_t_wit a_t_code a_t_tape a_t_refused a_t_newSongLong a_t_newFirstNote a_t_newWit a_t_newRow a_t_readCode a_t_waits a_t_tested a_t_isTold a_t_ahead a_t_told a_t_pile a_t_common a_t_mostOf a_t_likes a_t_heard a_t_soon a_t_soonAll a_t_imageRow a_t_imageAhead a_t_imageHears x1 x3 x4) {K5 : Int32 → Int32 → Option (Int32)} (hK5 : ∀ (x3 : Int32) (x4 : Int32), K5 x3 x4 = some rr → S_X12_origin_5 p l e s m args below meth c Q a_t a_t_rows a_t_songLong a_t_firstNote a_t_wit a_t_code a_t_tape a_t_refused a_t_newSongLong a_t_newFirstNote a_t_newWit a_t_newRow a_t_readCode a_t_waits a_t_tested a_t_isTold a_t_ahead a_t_told a_t_pile a_t_common a_t_mostOf a_t_likes a_t_heard a_t_soon a_t_soonAll a_t_imageRow a_t_imageAhead a_t_imageHears x1 x2 x3 x4) (h : f_X12_origin_5 x1 x2 v_t_people r_t_rows K36 K5 x3 x4 = some rr) : S_X12_origin_5 p l e s m args below meth c Q a_t a_t_rows a_t_songLong a_t_firstNote a_t_wit a_t_code a_t_tape a_t_refused a_t_newSongLong a_t_newFirstNote a_t_newWit a_t_newRow a_t_readCode a_t_waits a_t_tested a_t_isTold a_t_ahead a_t_told a_t_pile a_t_common a_t_mostOf a_t_likes a_t_heard a_t_soon a_t_soonAll a_t_imageRow a_t_imageAhead a_t_imageHears x1 x2 x3 x4 := by
  obtain ⟨hx, hb, hml, hown, hts, hr, hlk⟩ := id X0
  intro ls hl
  unfold f_X12_origin_5 at h
  refine lv_iload hx hb dX12_origin_5 (lv_at hl 4 rfl) ?_
  refine lv_aload_n hx hb dX12_origin_7 rfl (lv_at hl 0 rfl) ?_
  refine va_get (D := E.1) (ci := 12) (v := .int v_t_people) (C := RX12) (T := TX12) (N := 61) hx hb hts (fun _ h => (List.mem_cons_of_mem _ (List.mem_append_right _ h))) hown hk.1 hP 0 rfl rfl 2 (by decide) (hts (.fieldLink RX12 276 "GapSongsModel" "people" "I") (List.mem_cons_of_mem _ (List.mem_append_left _ (List.mem_of_getElem? (i := 0) rfl)))) (fun _ h9 => h9) rfl dX12_origin_8 ?_
  refine lv_icmp_ge (tgt := 61) hx hb dX12_origin_11 (by decide) (fun c1 => ?_) (fun c1 => ?_)
  · replace h := gs_ift c1 h
    refine lv_iconst (v := (-1)) hx hb dX12_origin_61 (by decide) ?_
    have h := Option.some.inj h
    subst h
    exact hret _ _ dX12_origin_62
  · replace h := gs_iff c1 h
    refine lv_aload_n hx hb dX12_origin_14 rfl (lv_at hl 0 rfl) ?_
    refine va_get (D := E.1) (ci := 12) (v := .ref a_t_rows) (C := RX12) (T := TX12) (N := 61) hx hb hts (fun _ h => (List.mem_cons_of_mem _ (List.mem_append_right _ h))) hown hk.1 hP 0 rfl rfl 39 (by decide) (hts (.fieldLink RX12 63 "GapSongsModel" "rows" "[I") (List.mem_cons_of_mem _ (List.mem_append_left _ (List.mem_of_getElem? (i := 1) rfl)))) (fun _ h9 => h9) rfl dX12_origin_15 ?_
    refine lv_sipush (v := 316) hx hb dX12_origin_18 (by decide) ?_
    refine lv_iconst (v := 5) hx hb dX12_origin_21 (by decide) ?_
    refine lv_iload_n hx hb dX12_origin_22 rfl (lv_at hl 3 rfl) ?_
    refine lv_imul hx hb dX12_origin_23 ?_
    refine lv_iadd hx hb dX12_origin_24 ?_
    refine lv_iload_n hx hb dX12_origin_25 rfl (lv_at hl 2 rfl) ?_
    refine lv_iadd hx hb dX12_origin_26 ?_
    obtain ⟨g2, h⟩ := gs_gd_e h
    refine va_iald hx hb hk.1 hP 1 0 rfl rfl (gs_in_e g2) dX12_origin_27 ?_
    refine lv_istore (lv' := [(5, .int (r_t_rows ((316 + (5 * x3)) + x2).toNatClampNeg)), (0, .ref a_t), (1, .int x1), (2, .int x2), (3, .int x3), (4, .int x4)]) hx hb dX12_origin_28 hl (by decide) rfl (fun ls hl => ?_)
    refine lv_iload hx hb dX12_origin_30 (lv_at hl 0 rfl) ?_
    refine lv_iconst (v := (-1)) hx hb dX12_origin_32 (by decide) ?_
    refine lv_icmp_ne (tgt := 52) hx hb dX12_origin_33 (by decide) (fun c3 => ?_) (fun c3 => ?_)
    · replace h := gs_iff c3 h
      refine lv_iload hx hb dX12_origin_52 (lv_at hl 0 rfl) ?_
      refine lv_istore_n (lv' := [(3, .int (r_t_rows ((316 + (5 * x3)) + x2).toNatClampNeg)), (5, .int (r_t_rows ((316 + (5 * x3)) + x2).toNatClampNeg)), (0, .ref a_t), (1, .int x1), (2, .int x2), (4, .int x4)]) hx hb dX12_origin_54 rfl hl (by decide) rfl (fun ls hl => ?_)
      refine lv_iinc (v := x4 + 1) (lv' := [(4, .int (x4 + 1)), (3, .int (r_t_rows ((316 + (5 * x3)) + x2).toNatClampNeg)), (5, .int (r_t_rows ((316 + (5 * x3)) + x2).toNatClampNeg)), (0, .ref a_t), (1, .int x1), (2, .int x2)]) hx hb dX12_origin_55 hl (k := 5) rfl rfl (by decide) rfl (fun ls hl => ?_)
      refine lv_goto (tgt := 5) hx hb dX12_origin_58 (by decide) ?_
      exact hK5 (r_t_rows ((316 + (5 * x3)) + x2).toNatClampNeg) (x4 + 1) h _ (lv_sub hl [3, 4, 5, 1, 0] rfl)
    · replace h := gs_ift c3 h
      exact hK36 x3 x4 h _ (lv_sub hl [2, 4, 5] rfl)
set_option maxHeartbeats 4000000 in
set_option maxRecDepth 100000 in
theorem t_X12_origin_5_n {p : Program} {l : Launch} {e : Env} {s : State} {m : MethodId} {args : Array Value} {below : List Frame} {meth : Method} {c : Code} {Q : State → Prop} {E : gs_E} {a_t a_t_rows a_t_songLong a_t_firstNote a_t_wit a_t_code a_t_tape a_t_refused a_t_newSongLong a_t_newFirstNote a_t_newWit a_t_newRow a_t_readCode a_t_waits a_t_tested a_t_isTold a_t_ahead a_t_told a_t_pile a_t_common a_t_mostOf a_t_likes a_t_heard a_t_soon a_t_soonAll a_t_imageRow a_t_imageAhead a_t_imageHears : Nat} {v_t_thrown : Int32} {v_t_songs : Int32} {v_t_people : Int32} {v_t_forgetsAt : Int32} {v_t_fillsAt : Int32} {v_t_taped : Int32} {v_t_faultKind : Int32} {v_t_faultPlace : Int32} {v_t_long1 : Int32} {v_t_next0 : Int32} {v_t_sort : Int32} {v_t_place : Int32} {v_t_long0 : Int32} {v_t_value : Int32} {v_t_sign : Int32} {v_t_word : Int64} {v_t_newSongs : Int32} {v_t_newPeople : Int32} {v_t_newForgetsAt : Int32} {v_t_newFillsAt : Int32} {v_t_top : Int32} {v_t_firstValue : Int32} {v_t_lastValue : Int32} {v_t_waiting : Int32} {v_t_depth : Int32} {v_t_acts : Int32} {v_t_isWinter : Int32} {v_t_learntNow : Int32} {v_t_forgottenNow : Int32} {v_t_heardMany : Int32} {v_t_its0 : Int32} {v_t_hasImage : Int32} {v_t_imageActs : Int32} {v_t_imageHeard : Int32} {r_t_rows : Nat → Int32} {rr : Int32} (X0 : gs_X wsX12_origin cX12_origin RX12 6 (some .int) p s m args meth c) (hk : gs_K E s) (hP : va_P E.1 vwCl (w_X12_origin E a_t a_t_rows a_t_songLong a_t_firstNote a_t_wit a_t_code a_t_tape a_t_refused a_t_newSongLong a_t_newFirstNote a_t_newWit a_t_newRow a_t_readCode a_t_waits a_t_tested a_t_isTold a_t_ahead a_t_told a_t_pile a_t_common a_t_mostOf a_t_likes a_t_heard a_t_soon a_t_soonAll a_t_imageRow a_t_imageAhead a_t_imageHears v_t_thrown v_t_songs v_t_people v_t_forgetsAt v_t_fillsAt v_t_taped v_t_faultKind v_t_faultPlace v_t_long1 v_t_next0 v_t_sort v_t_place v_t_long0 v_t_value v_t_sign v_t_word v_t_newSongs v_t_newPeople v_t_newForgetsAt v_t_newFillsAt v_t_top v_t_firstValue v_t_lastValue v_t_waiting v_t_depth v_t_acts v_t_isWinter v_t_learntNow v_t_forgottenNow v_t_heardMany v_t_its0 v_t_hasImage v_t_imageActs v_t_imageHeard r_t_rows) s.heap) (hD : va_D (fun _ => True) (w_X12_origin E a_t a_t_rows a_t_songLong a_t_firstNote a_t_wit a_t_code a_t_tape a_t_refused a_t_newSongLong a_t_newFirstNote a_t_newWit a_t_newRow a_t_readCode a_t_waits a_t_tested a_t_isTold a_t_ahead a_t_told a_t_pile a_t_common a_t_mostOf a_t_likes a_t_heard a_t_soon a_t_soonAll a_t_imageRow a_t_imageAhead a_t_imageHears v_t_thrown v_t_songs v_t_people v_t_forgetsAt v_t_fillsAt v_t_taped v_t_faultKind v_t_faultPlace v_t_long1 v_t_next0 v_t_sort v_t_place v_t_long0 v_t_value v_t_sign v_t_word v_t_newSongs v_t_newPeople v_t_newForgetsAt v_t_newFillsAt v_t_top v_t_firstValue v_t_lastValue v_t_waiting v_t_depth v_t_acts v_t_isWinter v_t_learntNow v_t_forgottenNow v_t_heardMany v_t_its0 v_t_hasImage v_t_imageActs v_t_imageHeard r_t_rows)) {x1 : Int32} {x2 : Int32} (hret : ∀ (pc : Nat) (ls : Array Slot), decode cX12_origin pc = .ok (.ireturn, 1) → W p l e rm_X12_origin s m args below meth c s.heap [] 0 0 Q (F0 m pc ls [.int rr])) {K36 : Int32 → Int32 → Option (Int32)} (hK36 : ∀ (x3 : Int32) (x4 : Int32), K36 x3 x4 = some rr → S_X12_origin_36 p l e s m args below meth c Q a_t a_t_rows a_t_songLong a_t_firstNote a_t_wit a_t_code a_t_tape a_t_refused a_t_newSongLong a_t_newFirstNote a_t_newWit a_t_newRow a_t_readCode a_t_waits a_t_tested a_t_isTold a_t_ahead a_t_told a_t_pile a_t_common a_t_mostOf a_t_likes a_t_heard a_t_soon a_t_soonAll a_t_imageRow a_t_imageAhead a_t_imageHears x1 x3 x4) : ∀ (n : Nat) (x3 : Int32) (x4 : Int32), gs_it (fun _ _ => none) (f_X12_origin_5 x1 x2 v_t_people r_t_rows K36) n x3 x4 = some rr → S_X12_origin_5 p l e s m args below meth c Q a_t a_t_rows a_t_songLong a_t_firstNote a_t_wit a_t_code a_t_tape a_t_refused a_t_newSongLong a_t_newFirstNote a_t_newWit a_t_newRow a_t_readCode a_t_waits a_t_tested a_t_isTold a_t_ahead a_t_told a_t_pile a_t_common a_t_mostOf a_t_likes a_t_heard a_t_soon a_t_soonAll a_t_imageRow a_t_imageAhead a_t_imageHears x1 x2 x3 x4 := by
  intro n
  induction n with
  | zero =>
    intro x3 x4 h
    have h : (none : Option (Int32)) = some rr := h
    cases h
  | succ n ih =>
    intro x3 x4 h
    exact t_X12_origin_5_b X0 hk hP hD hret (hK36 := hK36) (K5 := gs_it (fun _ _ => none) (f_X12_origin_5 x1 x2 v_t_people r_t_rows K36) n) (hK5 := ih) (h := h)
theorem t_X12_origin_5 {p : Program} {l : Launch} {e : Env} {s : State} {m : MethodId} {args : Array Value} {below : List Frame} {meth : Method} {c : Code} {Q : State → Prop} {E : gs_E} {a_t a_t_rows a_t_songLong a_t_firstNote a_t_wit a_t_code a_t_tape a_t_refused a_t_newSongLong a_t_newFirstNote a_t_newWit a_t_newRow a_t_readCode a_t_waits a_t_tested a_t_isTold a_t_ahead a_t_told a_t_pile a_t_common a_t_mostOf a_t_likes a_t_heard a_t_soon a_t_soonAll a_t_imageRow a_t_imageAhead a_t_imageHears : Nat} {v_t_thrown : Int32} {v_t_songs : Int32} {v_t_people : Int32} {v_t_forgetsAt : Int32} {v_t_fillsAt : Int32} {v_t_taped : Int32} {v_t_faultKind : Int32} {v_t_faultPlace : Int32} {v_t_long1 : Int32} {v_t_next0 : Int32} {v_t_sort : Int32} {v_t_place : Int32} {v_t_long0 : Int32} {v_t_value : Int32} {v_t_sign : Int32} {v_t_word : Int64} {v_t_newSongs : Int32} {v_t_newPeople : Int32} {v_t_newForgetsAt : Int32} {v_t_newFillsAt : Int32} {v_t_top : Int32} {v_t_firstValue : Int32} {v_t_lastValue : Int32} {v_t_waiting : Int32} {v_t_depth : Int32} {v_t_acts : Int32} {v_t_isWinter : Int32} {v_t_learntNow : Int32} {v_t_forgottenNow : Int32} {v_t_heardMany : Int32} {v_t_its0 : Int32} {v_t_hasImage : Int32} {v_t_imageActs : Int32} {v_t_imageHeard : Int32} {r_t_rows : Nat → Int32} {rr : Int32} (X0 : gs_X wsX12_origin cX12_origin RX12 6 (some .int) p s m args meth c) (hk : gs_K E s) (hP : va_P E.1 vwCl (w_X12_origin E a_t a_t_rows a_t_songLong a_t_firstNote a_t_wit a_t_code a_t_tape a_t_refused a_t_newSongLong a_t_newFirstNote a_t_newWit a_t_newRow a_t_readCode a_t_waits a_t_tested a_t_isTold a_t_ahead a_t_told a_t_pile a_t_common a_t_mostOf a_t_likes a_t_heard a_t_soon a_t_soonAll a_t_imageRow a_t_imageAhead a_t_imageHears v_t_thrown v_t_songs v_t_people v_t_forgetsAt v_t_fillsAt v_t_taped v_t_faultKind v_t_faultPlace v_t_long1 v_t_next0 v_t_sort v_t_place v_t_long0 v_t_value v_t_sign v_t_word v_t_newSongs v_t_newPeople v_t_newForgetsAt v_t_newFillsAt v_t_top v_t_firstValue v_t_lastValue v_t_waiting v_t_depth v_t_acts v_t_isWinter v_t_learntNow v_t_forgottenNow v_t_heardMany v_t_its0 v_t_hasImage v_t_imageActs v_t_imageHeard r_t_rows) s.heap) (hD : va_D (fun _ => True) (w_X12_origin E a_t a_t_rows a_t_songLong a_t_firstNote a_t_wit a_t_code a_t_tape a_t_refused a_t_newSongLong a_t_newFirstNote a_t_newWit a_t_newRow a_t_readCode a_t_waits a_t_tested a_t_isTold a_t_ahead a_t_told a_t_pile a_t_common a_t_mostOf a_t_likes a_t_heard a_t_soon a_t_soonAll a_t_imageRow a_t_imageAhead a_t_imageHears v_t_thrown v_t_songs v_t_people v_t_forgetsAt v_t_fillsAt v_t_taped v_t_faultKind v_t_faultPlace v_t_long1 v_t_next0 v_t_sort v_t_place v_t_long0 v_t_value v_t_sign v_t_word v_t_newSongs v_t_newPeople v_t_newForgetsAt v_t_newFillsAt v_t_top v_t_firstValue v_t_lastValue v_t_waiting v_t_depth v_t_acts v_t_isWinter v_t_learntNow v_t_forgottenNow v_t_heardMany v_t_its0 v_t_hasImage v_t_imageActs v_t_imageHeard r_t_rows)) {x1 : Int32} {x2 : Int32} {x3 : Int32} {x4 : Int32} (hret : ∀ (pc : Nat) (ls : Array Slot), decode cX12_origin pc = .ok (.ireturn, 1) → W p l e rm_X12_origin s m args below meth c s.heap [] 0 0 Q (F0 m pc ls [.int rr])) {K36 : Int32 → Int32 → Option (Int32)} (hK36 : ∀ (x3 : Int32) (x4 : Int32), K36 x3 x4 = some rr → S_X12_origin_36 p l e s m args below meth c Q a_t a_t_rows a_t_songLong a_t_firstNote a_t_wit a_t_code a_t_tape a_t_refused a_t_newSongLong a_t_newFirstNote a_t_newWit a_t_newRow a_t_readCode a_t_waits a_t_tested a_t_isTold a_t_ahead a_t_told a_t_pile a_t_common a_t_mostOf a_t_likes a_t_heard a_t_soon a_t_soonAll a_t_imageRow a_t_imageAhead a_t_imageHears x1 x3 x4) (h : gs_it (fun _ _ => none) (f_X12_origin_5 x1 x2 v_t_people r_t_rows K36) gs_fuel x3 x4 = some rr) : S_X12_origin_5 p l e s m args below meth c Q a_t a_t_rows a_t_songLong a_t_firstNote a_t_wit a_t_code a_t_tape a_t_refused a_t_newSongLong a_t_newFirstNote a_t_newWit a_t_newRow a_t_readCode a_t_waits a_t_tested a_t_isTold a_t_ahead a_t_told a_t_pile a_t_common a_t_mostOf a_t_likes a_t_heard a_t_soon a_t_soonAll a_t_imageRow a_t_imageAhead a_t_imageHears x1 x2 x3 x4 :=
  t_X12_origin_5_n X0 hk hP hD hret (hK36 := hK36) gs_fuel x3 x4 h
def f_X12_origin_36 (x1 : Int32) (x3 : Int32) (x4 : Int32) : Option (Int32) :=
  if x3 = x1 then
    if x4 = 0 then
      some (-1)
    else
      some x3
  else
    some x3
set_option maxHeartbeats 4000000 in
set_option maxRecDepth 100000 in
theorem t_X12_origin_36 {p : Program} {l : Launch} {e : Env} {s : State} {m : MethodId} {args : Array Value} {below : List Frame} {meth : Method} {c : Code} {Q : State → Prop} {E : gs_E} {a_t a_t_rows a_t_songLong a_t_firstNote a_t_wit a_t_code a_t_tape a_t_refused a_t_newSongLong a_t_newFirstNote a_t_newWit a_t_newRow a_t_readCode a_t_waits a_t_tested a_t_isTold a_t_ahead a_t_told a_t_pile a_t_common a_t_mostOf a_t_likes a_t_heard a_t_soon a_t_soonAll a_t_imageRow a_t_imageAhead a_t_imageHears : Nat} {v_t_thrown : Int32} {v_t_songs : Int32} {v_t_people : Int32} {v_t_forgetsAt : Int32} {v_t_fillsAt : Int32} {v_t_taped : Int32} {v_t_faultKind : Int32} {v_t_faultPlace : Int32} {v_t_long1 : Int32} {v_t_next0 : Int32} {v_t_sort : Int32} {v_t_place : Int32} {v_t_long0 : Int32} {v_t_value : Int32} {v_t_sign : Int32} {v_t_word : Int64} {v_t_newSongs : Int32} {v_t_newPeople : Int32} {v_t_newForgetsAt : Int32} {v_t_newFillsAt : Int32} {v_t_top : Int32} {v_t_firstValue : Int32} {v_t_lastValue : Int32} {v_t_waiting : Int32} {v_t_depth : Int32} {v_t_acts : Int32} {v_t_isWinter : Int32} {v_t_learntNow : Int32} {v_t_forgottenNow : Int32} {v_t_heardMany : Int32} {v_t_its0 : Int32} {v_t_hasImage : Int32} {v_t_imageActs : Int32} {v_t_imageHeard : Int32} {r_t_rows : Nat → Int32} {rr : Int32} (X0 : gs_X wsX12_origin cX12_origin RX12 6 (some .int) p s m args meth c) (hk : gs_K E s) (hP : va_P E.1 vwCl (w_X12_origin E a_t a_t_rows a_t_songLong a_t_firstNote a_t_wit a_t_code a_t_tape a_t_refused a_t_newSongLong a_t_newFirstNote a_t_newWit a_t_newRow a_t_readCode a_t_waits a_t_tested a_t_isTold a_t_ahead a_t_told a_t_pile a_t_common a_t_mostOf a_t_likes a_t_heard a_t_soon a_t_soonAll a_t_imageRow a_t_imageAhead a_t_imageHears v_t_thrown v_t_songs v_t_people v_t_forgetsAt v_t_fillsAt v_t_taped v_t_faultKind v_t_faultPlace v_t_long1 v_t_next0 v_t_sort v_t_place v_t_long0 v_t_value v_t_sign v_t_word v_t_newSongs v_t_newPeople v_t_newForgetsAt v_t_newFillsAt v_t_top v_t_firstValue v_t_lastValue v_t_waiting v_t_depth v_t_acts v_t_isWinter v_t_learntNow v_t_forgottenNow v_t_heardMany v_t_its0 v_t_hasImage v_t_imageActs v_t_imageHeard r_t_rows) s.heap) (hD : va_D (fun _ => True) (w_X12_origin E a_t a_t_rows a_t_songLong a_t_firstNote a_t_wit a_t_code a_t_tape a_t_refused a_t_newSongLong a_t_newFirstNote a_t_newWit a_t_newRow a_t_readCode a_t_waits a_t_tested a_t_isTold a_t_ahead a_t_told a_t_pile a_t_common a_t_mostOf a_t_likes a_t_heard a_t_soon a_t_soonAll a_t_imageRow a_t_imageAhead a_t_imageHears v_t_thrown v_t_songs v_t_people v_t_forgetsAt v_t_fillsAt v_t_taped v_t_faultKind v_t_faultPlace v_t_long1 v_t_next0 v_t_sort v_t_place v_t_long0 v_t_value v_t_sign v_t_word v_t_newSongs v_t_newPeople v_t_newForgetsAt v_t_newFillsAt v_t_top v_t_firstValue v_t_lastValue v_t_waiting v_t_depth v_t_acts v_t_isWinter v_t_learntNow v_t_forgottenNow v_t_heardMany v_t_its0 v_t_hasImage v_t_imageActs v_t_imageHeard r_t_rows)) {x1 : Int32} {x3 : Int32} {x4 : Int32} (hret : ∀ (pc : Nat) (ls : Array Slot), decode cX12_origin pc = .ok (.ireturn, 1) → W p l e rm_X12_origin s m args below meth c s.heap [] 0 0 Q (F0 m pc ls [.int rr])) (h : f_X12_origin_36 x1 x3 x4 = some rr) : S_X12_origin_36 p l e s m args below meth c Q a_t a_t_rows a_t_songLong a_t_firstNote a_t_wit a_t_code a_t_tape a_t_refused a_t_newSongLong a_t_newFirstNote a_t_newWit a_t_newRow a_t_readCode a_t_waits a_t_tested a_t_isTold a_t_ahead a_t_told a_t_pile a_t_common a_t_mostOf a_t_likes a_t_heard a_t_soon a_t_soonAll a_t_imageRow a_t_imageAhead a_t_imageHears x1 x3 x4 := by
  obtain ⟨hx, hb, hml, hown, hts, hr, hlk⟩ := id X0
  intro ls hl
  unfold f_X12_origin_36 at h
  refine lv_iload_n hx hb dX12_origin_36 rfl (lv_at hl 1 rfl) ?_
  refine lv_iload_n hx hb dX12_origin_37 rfl (lv_at hl 0 rfl) ?_
  refine lv_icmp_ne (tgt := 50) hx hb dX12_origin_38 (by decide) (fun c4 => ?_) (fun c4 => ?_)
  · replace h := gs_iff c4 h
    refine lv_iload_n hx hb dX12_origin_50 rfl (lv_at hl 1 rfl) ?_
    have h := Option.some.inj h
    subst h
    exact hret _ _ dX12_origin_51
  · replace h := gs_ift c4 h
    refine lv_iload hx hb dX12_origin_41 (lv_at hl 2 rfl) ?_
    refine lv_if_ne (tgt := 50) hx hb dX12_origin_43 (by decide) (fun c5 => ?_) (fun c5 => ?_)
    · replace h := gs_iff c5 h
      refine lv_iload_n hx hb dX12_origin_50 rfl (lv_at hl 1 rfl) ?_
      have h := Option.some.inj h
      subst h
      exact hret _ _ dX12_origin_51
    · replace h := gs_ift c5 h
      refine lv_iconst (v := (-1)) hx hb dX12_origin_46 (by decide) ?_
      refine lv_goto (tgt := 51) hx hb dX12_origin_47 (by decide) ?_
      have h := Option.some.inj h
      subst h
      exact hret _ _ dX12_origin_51
def f_X12_origin (x1 : Int32) (x2 : Int32) (v_t_people : Int32) (r_t_rows : Nat → Int32) : Option (Int32) :=
  gs_it (fun _ _ => none) (f_X12_origin_5 x1 x2 v_t_people r_t_rows (fun (x3' : Int32) (x4' : Int32) => f_X12_origin_36 x1 x3' x4')) gs_fuel x1 0
set_option maxHeartbeats 4000000 in
set_option maxRecDepth 100000 in
theorem c_X12_origin (l : Launch) (E : gs_E) (a_t a_t_rows a_t_songLong a_t_firstNote a_t_wit a_t_code a_t_tape a_t_refused a_t_newSongLong a_t_newFirstNote a_t_newWit a_t_newRow a_t_readCode a_t_waits a_t_tested a_t_isTold a_t_ahead a_t_told a_t_pile a_t_common a_t_mostOf a_t_likes a_t_heard a_t_soon a_t_soonAll a_t_imageRow a_t_imageAhead a_t_imageHears : Nat) (v_t_thrown : Int32) (v_t_songs : Int32) (v_t_people : Int32) (v_t_forgetsAt : Int32) (v_t_fillsAt : Int32) (v_t_taped : Int32) (v_t_faultKind : Int32) (v_t_faultPlace : Int32) (v_t_long1 : Int32) (v_t_next0 : Int32) (v_t_sort : Int32) (v_t_place : Int32) (v_t_long0 : Int32) (v_t_value : Int32) (v_t_sign : Int32) (v_t_word : Int64) (v_t_newSongs : Int32) (v_t_newPeople : Int32) (v_t_newForgetsAt : Int32) (v_t_newFillsAt : Int32) (v_t_top : Int32) (v_t_firstValue : Int32) (v_t_lastValue : Int32) (v_t_waiting : Int32) (v_t_depth : Int32) (v_t_acts : Int32) (v_t_isWinter : Int32) (v_t_learntNow : Int32) (v_t_forgottenNow : Int32) (v_t_heardMany : Int32) (v_t_its0 : Int32) (v_t_hasImage : Int32) (v_t_imageActs : Int32) (v_t_imageHeard : Int32) (r_t_rows : Nat → Int32) (x1 : Int32) (x2 : Int32) (rr : Int32) (h : f_X12_origin x1 x2 v_t_people r_t_rows = some rr) : gs_MR l yX12_origin wsX12_origin rm_X12_origin [.ref a_t, .int x1, .int x2] E (w_X12_origin E a_t a_t_rows a_t_songLong a_t_firstNote a_t_wit a_t_code a_t_tape a_t_refused a_t_newSongLong a_t_newFirstNote a_t_newWit a_t_newRow a_t_readCode a_t_waits a_t_tested a_t_isTold a_t_ahead a_t_told a_t_pile a_t_common a_t_mostOf a_t_likes a_t_heard a_t_soon a_t_soonAll a_t_imageRow a_t_imageAhead a_t_imageHears v_t_thrown v_t_songs v_t_people v_t_forgetsAt v_t_fillsAt v_t_taped v_t_faultKind v_t_faultPlace v_t_long1 v_t_next0 v_t_sort v_t_place v_t_long0 v_t_value v_t_sign v_t_word v_t_newSongs v_t_newPeople v_t_newForgetsAt v_t_newFillsAt v_t_top v_t_firstValue v_t_lastValue v_t_waiting v_t_depth v_t_acts v_t_isWinter v_t_learntNow v_t_forgottenNow v_t_heardMany v_t_its0 v_t_hasImage v_t_imageActs v_t_imageHeard r_t_rows) (some (.int rr)) := by
  refine Met.ofW (cc := cX12_origin) (maxL := 6) (ret := (some .int)) (by decide) rfl ?_
  intro p e s m args below meth c s₁ B hml hv
  obtain ⟨rfl, hP, hk, hD0⟩ := hv
  have X0 : gs_X wsX12_origin cX12_origin RX12 6 (some .int) p s m ([.ref a_t, .int x1, .int x2] : List Value).toArray meth c := gs_X.of B hml
  obtain ⟨hx, hb, -, hown, hts, hr, hlk⟩ := id X0
  have hD := hD0
  have hret : ∀ (pc : Nat) (ls : Array Slot), decode cX12_origin pc = .ok (.ireturn, 1) → W p l e rm_X12_origin s m ([.ref a_t, .int x1, .int x2] : List Value).toArray below meth c s.heap [] 0 0 (MQ below (gs_QR (some (.int rr))) ([.ref a_t, .int x1, .int x2] : List Value).toArray s 0 0 (fun _ => False)) (F0 m pc ls [.int rr]) := fun pc ls hd => W.iret hx hb hr (fun t ht hW => ⟨rfl, ht⟩) (fun q hq => by cases hq) hd
  have hl := lv_entry ([.ref a_t, .int x1, .int x2]) (n := 6) (Nat.le_of_ble_eq_true rfl)
  rw [lg_entry_eq]
  generalize (lg_sl ([.ref a_t, .int x1, .int x2]) ++ List.replicate (6 - (lg_sl ([.ref a_t, .int x1, .int x2])).length) Slot.unset).toArray = ls at hl ⊢
  have hl : lv_has ls 6 [(0, .ref a_t), (1, .int x1), (2, .int x2)] := hl
  unfold f_X12_origin at h
  refine lv_iload_n hx hb dX12_origin_0 rfl (lv_at hl 1 rfl) ?_
  refine lv_istore_n (lv' := [(3, .int x1), (0, .ref a_t), (1, .int x1), (2, .int x2)]) hx hb dX12_origin_1 rfl hl (by decide) rfl (fun ls hl => ?_)
  refine lv_iconst (v := 0) hx hb dX12_origin_2 (by decide) ?_
  refine lv_istore (lv' := [(4, .int 0), (3, .int x1), (0, .ref a_t), (1, .int x1), (2, .int x2)]) hx hb dX12_origin_3 hl (by decide) rfl (fun ls hl => ?_)
  exact t_X12_origin_5 X0 hk hP hD hret (K36 := (fun (x3' : Int32) (x4' : Int32) => f_X12_origin_36 x1 x3' x4')) (hK36 := (fun x3' x4' hq => t_X12_origin_36 X0 hk hP hD hret  (h := hq))) (h := h) _ (lv_sub hl [2, 3, 4, 1, 0] rfl)

theorem dX12_generation_0 : decode cX12_generation 0 = .ok (.aload_n 0, 1) := by decide +kernel
theorem dX12_generation_1 : decode cX12_generation 1 = .ok (.getfield 63, 3) := by decide +kernel
theorem dX12_generation_4 : decode cX12_generation 4 = .ok (.sipush 316, 3) := by decide +kernel
theorem dX12_generation_7 : decode cX12_generation 7 = .ok (.iconst 5, 1) := by decide +kernel
theorem dX12_generation_8 : decode cX12_generation 8 = .ok (.iload_n 1, 1) := by decide +kernel
theorem dX12_generation_9 : decode cX12_generation 9 = .ok (.imul, 1) := by decide +kernel
theorem dX12_generation_10 : decode cX12_generation 10 = .ok (.iadd, 1) := by decide +kernel
theorem dX12_generation_11 : decode cX12_generation 11 = .ok (.iload_n 2, 1) := by decide +kernel
theorem dX12_generation_12 : decode cX12_generation 12 = .ok (.iadd, 1) := by decide +kernel
theorem dX12_generation_13 : decode cX12_generation 13 = .ok (.iaload, 1) := by decide +kernel
theorem dX12_generation_14 : decode cX12_generation 14 = .ok (.istore_n 3, 1) := by decide +kernel
theorem dX12_generation_15 : decode cX12_generation 15 = .ok (.iconst 0, 1) := by decide +kernel
theorem dX12_generation_16 : decode cX12_generation 16 = .ok (.istore 4, 2) := by decide +kernel
theorem dX12_generation_18 : decode cX12_generation 18 = .ok (.iload 4, 2) := by decide +kernel
theorem dX12_generation_20 : decode cX12_generation 20 = .ok (.aload_n 0, 1) := by decide +kernel
theorem dX12_generation_21 : decode cX12_generation 21 = .ok (.getfield 276, 3) := by decide +kernel
theorem dX12_generation_24 : decode cX12_generation 24 = .ok (.if_icmp .ge 32, 3) := by decide +kernel
theorem dX12_generation_27 : decode cX12_generation 27 = .ok (.iload_n 3, 1) := by decide +kernel
theorem dX12_generation_28 : decode cX12_generation 28 = .ok (.iconst (-1), 1) := by decide +kernel
theorem dX12_generation_29 : decode cX12_generation 29 = .ok (.if_icmp .ne 6, 3) := by decide +kernel
theorem dX12_generation_32 : decode cX12_generation 32 = .ok (.iload 4, 2) := by decide +kernel
theorem dX12_generation_34 : decode cX12_generation 34 = .ok (.ireturn, 1) := by decide +kernel
theorem dX12_generation_35 : decode cX12_generation 35 = .ok (.aload_n 0, 1) := by decide +kernel
theorem dX12_generation_36 : decode cX12_generation 36 = .ok (.getfield 63, 3) := by decide +kernel
theorem dX12_generation_39 : decode cX12_generation 39 = .ok (.sipush 316, 3) := by decide +kernel
theorem dX12_generation_42 : decode cX12_generation 42 = .ok (.iconst 5, 1) := by decide +kernel
theorem dX12_generation_43 : decode cX12_generation 43 = .ok (.iload_n 3, 1) := by decide +kernel
theorem dX12_generation_44 : decode cX12_generation 44 = .ok (.imul, 1) := by decide +kernel
theorem dX12_generation_45 : decode cX12_generation 45 = .ok (.iadd, 1) := by decide +kernel
theorem dX12_generation_46 : decode cX12_generation 46 = .ok (.iload_n 2, 1) := by decide +kernel
theorem dX12_generation_47 : decode cX12_generation 47 = .ok (.iadd, 1) := by decide +kernel
theorem dX12_generation_48 : decode cX12_generation 48 = .ok (.iaload, 1) := by decide +kernel
theorem dX12_generation_49 : decode cX12_generation 49 = .ok (.istore_n 3, 1) := by decide +kernel
theorem dX12_generation_50 : decode cX12_generation 50 = .ok (.iinc 4 1, 3) := by decide +kernel
theorem dX12_generation_53 : decode cX12_generation 53 = .ok (.goto (-35), 3) := by decide +kernel
theorem dX12_generation_56 : decode cX12_generation 56 = .ok (.aload_n 0, 1) := by decide +kernel
theorem dX12_generation_57 : decode cX12_generation 57 = .ok (.getfield 276, 3) := by decide +kernel
theorem dX12_generation_60 : decode cX12_generation 60 = .ok (.ireturn, 1) := by decide +kernel
abbrev w_X12_generation (E : gs_E) (a_t a_t_rows a_t_songLong a_t_firstNote a_t_wit a_t_code a_t_tape a_t_refused a_t_newSongLong a_t_newFirstNote a_t_newWit a_t_newRow a_t_readCode a_t_waits a_t_tested a_t_isTold a_t_ahead a_t_told a_t_pile a_t_common a_t_mostOf a_t_likes a_t_heard a_t_soon a_t_soonAll a_t_imageRow a_t_imageAhead a_t_imageHears : Nat) (v_t_thrown : Int32) (v_t_songs : Int32) (v_t_people : Int32) (v_t_forgetsAt : Int32) (v_t_fillsAt : Int32) (v_t_taped : Int32) (v_t_faultKind : Int32) (v_t_faultPlace : Int32) (v_t_long1 : Int32) (v_t_next0 : Int32) (v_t_sort : Int32) (v_t_place : Int32) (v_t_long0 : Int32) (v_t_value : Int32) (v_t_sign : Int32) (v_t_word : Int64) (v_t_newSongs : Int32) (v_t_newPeople : Int32) (v_t_newForgetsAt : Int32) (v_t_newFillsAt : Int32) (v_t_top : Int32) (v_t_firstValue : Int32) (v_t_lastValue : Int32) (v_t_waiting : Int32) (v_t_depth : Int32) (v_t_acts : Int32) (v_t_isWinter : Int32) (v_t_learntNow : Int32) (v_t_forgottenNow : Int32) (v_t_heardMany : Int32) (v_t_its0 : Int32) (v_t_hasImage : Int32) (v_t_imageActs : Int32) (v_t_imageHeard : Int32) (r_t_rows : Nat → Int32) : va_W := [(a_t, .inr (12, [.int v_t_thrown, .int v_t_songs, .int v_t_people, .int v_t_forgetsAt, .int v_t_fillsAt, .ref a_t_songLong, .ref a_t_firstNote, .ref a_t_wit, .ref a_t_code, .ref a_t_tape, .int v_t_taped, .int v_t_faultKind, .int v_t_faultPlace, .ref a_t_refused, .int v_t_long1, .int v_t_next0, .int v_t_sort, .int v_t_place, .int v_t_long0, .int v_t_value, .int v_t_sign, .long v_t_word, .int v_t_newSongs, .int v_t_newPeople, .int v_t_newForgetsAt, .int v_t_newFillsAt, .int v_t_top, .int v_t_firstValue, .int v_t_lastValue, .int v_t_waiting, .int v_t_depth, .ref a_t_newSongLong, .ref a_t_newFirstNote, .ref a_t_newWit, .ref a_t_newRow, .ref a_t_readCode, .ref a_t_waits, .ref a_t_tested, .ref a_t_isTold, .ref a_t_rows, .ref a_t_ahead, .int v_t_acts, .ref a_t_told, .ref a_t_pile, .int v_t_isWinter, .int v_t_learntNow, .int v_t_forgottenNow, .ref a_t_common, .ref a_t_mostOf, .ref a_t_likes, .int v_t_heardMany, .ref a_t_heard, .ref a_t_soon, .ref a_t_soonAll, .int v_t_its0, .int v_t_hasImage, .int v_t_imageActs, .int v_t_imageHeard, .ref a_t_imageRow, .ref a_t_imageAhead, .ref a_t_imageHears])), (a_t_rows, .inl (E.2.1, 744, .inl r_t_rows))]
abbrev rm_X12_generation : Room := { frames := 0, cells := 0, slots := 0, locals := 0 }
def S_X12_generation_18 (p : Program) (l : Launch) (e : Env) (s : State) (m : MethodId) (args : Array Value) (below : List Frame) (meth : Method) (c : Code) (Q : State → Prop) (a_t a_t_rows a_t_songLong a_t_firstNote a_t_wit a_t_code a_t_tape a_t_refused a_t_newSongLong a_t_newFirstNote a_t_newWit a_t_newRow a_t_readCode a_t_waits a_t_tested a_t_isTold a_t_ahead a_t_told a_t_pile a_t_common a_t_mostOf a_t_likes a_t_heard a_t_soon a_t_soonAll a_t_imageRow a_t_imageAhead a_t_imageHears : Nat) (x2 : Int32) (x3 : Int32) (x4 : Int32) : Prop := ∀ (ls : Array Slot), lv_has ls 5 [(0, .ref a_t), (2, .int x2), (3, .int x3), (4, .int x4)] → W p l e rm_X12_generation s m args below meth c s.heap [] 0 0 Q (F0 m 18 ls [])
def f_X12_generation_18 (x2 : Int32) (v_t_people : Int32) (r_t_rows : Nat → Int32) (K18 : Int32 → Int32 → Option (Int32)) (x3 : Int32) (x4 : Int32) : Option (Int32) :=
  if v_t_people ≤ x4 then
    some v_t_people
  else
    if x3 = (-1) then
      some x4
    else
      gs_gd (gs_in ((316 + (5 * x3)) + x2) 744) <|
      K18 (r_t_rows ((316 + (5 * x3)) + x2).toNatClampNeg) (x4 + 1)
set_option maxHeartbeats 4000000 in
set_option maxRecDepth 100000 in
theorem t_X12_generation_18_b {p : Program} {l : Launch} {e : Env} {s : State} {m : MethodId} {args : Array Value} {below : List Frame} {meth : Method} {c : Code} {Q : State → Prop} {E : gs_E} {a_t a_t_rows a_t_songLong a_t_firstNote a_t_wit a_t_code a_t_tape a_t_refused a_t_newSongLong a_t_newFirstNote a_t_newWit a_t_newRow a_t_readCode a_t_waits a_t_tested a_t_isTold a_t_ahead a_t_told a_t_pile a_t_common a_t_mostOf a_t_likes a_t_heard a_t_soon a_t_soonAll a_t_imageRow a_t_imageAhead a_t_imageHears : Nat} {v_t_thrown : Int32} {v_t_songs : Int32} {v_t_people : Int32} {v_t_forgetsAt : Int32} {v_t_fillsAt : Int32} {v_t_taped : Int32} {v_t_faultKind : Int32} {v_t_faultPlace : Int32} {v_t_long1 : Int32} {v_t_next0 : Int32} {v_t_sort : Int32} {v_t_place : Int32} {v_t_long0 : Int32} {v_t_value : Int32} {v_t_sign : Int32} {v_t_word : Int64} {v_t_newSongs : Int32} {v_t_newPeople : Int32} {v_t_newForgetsAt : Int32} {v_t_newFillsAt : Int32} {v_t_top : Int32} {v_t_firstValue : Int32} {v_t_lastValue : Int32} {v_t_waiting : Int32} {v_t_depth : Int32} {v_t_acts : Int32} {v_t_isWinter : Int32} {v_t_learntNow : Int32} {v_t_forgottenNow : Int32} {v_t_heardMany : Int32} {v_t_its0 : Int32} {v_t_hasImage : Int32} {v_t_imageActs : Int32} {v_t_imageHeard : Int32} {r_t_rows : Nat → Int32} {rr : Int32} (X0 : gs_X wsX12_generation cX12_generation RX12 5 (some .int) p s m args meth c) (hk : gs_K E s) (hP : va_P E.1 vwCl (w_X12_generation E a_t a_t_rows a_t_songLong a_t_firstNote a_t_wit a_t_code a_t_tape a_t_refused a_t_newSongLong a_t_newFirstNote a_t_newWit a_t_newRow a_t_readCode a_t_waits a_t_tested a_t_isTold a_t_ahead a_t_told a_t_pile a_t_common a_t_mostOf a_t_likes a_t_heard a_t_soon a_t_soonAll a_t_imageRow a_t_imageAhead a_t_imageHears v_t_thrown v_t_songs v_t_people v_t_forgetsAt v_t_fillsAt v_t_taped v_t_faultKind v_t_faultPlace v_t_long1 v_t_next0 v_t_sort v_t_place v_t_long0 v_t_value v_t_sign v_t_word v_t_newSongs v_t_newPeople v_t_newForgetsAt v_t_newFillsAt v_t_top v_t_firstValue v_t_lastValue v_t_waiting v_t_depth v_t_acts v_t_isWinter v_t_learntNow v_t_forgottenNow v_t_heardMany v_t_its0 v_t_hasImage v_t_imageActs v_t_imageHeard r_t_rows) s.heap) (hD : va_D (fun _ => True) (w_X12_generation E a_t a_t_rows a_t_songLong a_t_firstNote a_t_wit a_t_code a_t_tape a_t_refused a_t_newSongLong a_t_newFirstNote a_t_newWit a_t_newRow a_t_readCode a_t_waits a_t_tested a_t_isTold a_t_ahead a_t_told a_t_pile a_t_common a_t_mostOf a_t_likes a_t_heard a_t_soon a_t_soonAll a_t_imageRow a_t_imageAhead a_t_imageHears v_t_thrown v_t_songs v_t_people v_t_forgetsAt v_t_fillsAt v_t_taped v_t_faultKind v_t_faultPlace v_t_long1 v_t_next0 v_t_sort v_t_place v_t_long0 v_t_value v_t_sign v_t_word v_t_newSongs v_t_newPeople v_t_newForgetsAt v_t_newFillsAt v_t_top v_t_firstValue v_t_lastValue v_t_waiting v_t_depth v_t_acts v_t_isWinter v_t_learntNow v_t_forgottenNow v_t_heardMany v_t_its0 v_t_hasImage v_t_imageActs v_t_imageHeard r_t_rows)) {x2 : Int32} {x3 : Int32} {x4 : Int32} (hret : ∀ (pc : Nat) (ls : Array Slot), decode cX12_generation pc = .ok (.ireturn, 1) → W p l e rm_X12_generation s m args below meth c s.heap [] 0 0 Q (F0 m pc ls [.int rr])) {K18 : Int32 → Int32 → Option (Int32)} (hK18 : ∀ (x3 : Int32) (x4 : Int32), K18 x3 x4 = some rr → S_X12_generation_18 p l e s m args below meth c Q a_t a_t_rows a_t_songLong a_t_firstNote a_t_wit a_t_code a_t_tape a_t_refused a_t_newSongLong a_t_newFirstNote a_t_newWit a_t_newRow a_t_readCode a_t_waits a_t_tested a_t_isTold a_t_ahead a_t_told a_t_pile a_t_common a_t_mostOf a_t_likes a_t_heard a_t_soon a_t_soonAll a_t_imageRow a_t_imageAhead a_t_imageHears x2 x3 x4) (h : f_X12_generation_18 x2 v_t_people r_t_rows K18 x3 x4 = some rr) : S_X12_generation_18 p l e s m args below meth c Q a_t a_t_rows a_t_songLong a_t_firstNote a_t_wit a_t_code a_t_tape a_t_refused a_t_newSongLong a_t_newFirstNote a_t_newWit a_t_newRow a_t_readCode a_t_waits a_t_tested a_t_isTold a_t_ahead a_t_told a_t_pile a_t_common a_t_mostOf a_t_likes a_t_heard a_t_soon a_t_soonAll a_t_imageRow a_t_imageAhead a_t_imageHears x2 x3 x4 := by
  obtain ⟨hx, hb, hml, hown, hts, hr, hlk⟩ := id X0
  intro ls hl
  unfold f_X12_generation_18 at h
  refine lv_iload hx hb dX12_generation_18 (lv_at hl 3 rfl) ?_
  refine lv_aload_n hx hb dX12_generation_20 rfl (lv_at hl 0 rfl) ?_
  refine va_get (D := E.1) (ci := 12) (v := .int v_t_people) (C := RX12) (T := TX12) (N := 61) hx hb hts (fun _ h => (List.mem_cons_of_mem _ (List.mem_append_right _ h))) hown hk.1 hP 0 rfl rfl 2 (by decide) (hts (.fieldLink RX12 276 "GapSongsModel" "people" "I") (List.mem_cons_of_mem _ (List.mem_append_left _ (List.mem_of_getElem? (i := 1) rfl)))) (fun _ h9 => h9) rfl dX12_generation_21 ?_
  refine lv_icmp_ge (tgt := 56) hx hb dX12_generation_24 (by decide) (fun c2 => ?_) (fun c2 => ?_)
  · replace h := gs_ift c2 h
    refine lv_aload_n hx hb dX12_generation_56 rfl (lv_at hl 0 rfl) ?_
    refine va_get (D := E.1) (ci := 12) (v := .int v_t_people) (C := RX12) (T := TX12) (N := 61) hx hb hts (fun _ h => (List.mem_cons_of_mem _ (List.mem_append_right _ h))) hown hk.1 hP 0 rfl rfl 2 (by decide) (hts (.fieldLink RX12 276 "GapSongsModel" "people" "I") (List.mem_cons_of_mem _ (List.mem_append_left _ (List.mem_of_getElem? (i := 1) rfl)))) (fun _ h9 => h9) rfl dX12_generation_57 ?_
    have h := Option.some.inj h
    subst h
    exact hret _ _ dX12_generation_60
  · replace h := gs_iff c2 h
    refine lv_iload_n hx hb dX12_generation_27 rfl (lv_at hl 2 rfl) ?_
    refine lv_iconst (v := (-1)) hx hb dX12_generation_28 (by decide) ?_
    refine lv_icmp_ne (tgt := 35) hx hb dX12_generation_29 (by decide) (fun c3 => ?_) (fun c3 => ?_)
    · replace h := gs_iff c3 h
      refine lv_aload_n hx hb dX12_generation_35 rfl (lv_at hl 0 rfl) ?_
      refine va_get (D := E.1) (ci := 12) (v := .ref a_t_rows) (C := RX12) (T := TX12) (N := 61) hx hb hts (fun _ h => (List.mem_cons_of_mem _ (List.mem_append_right _ h))) hown hk.1 hP 0 rfl rfl 39 (by decide) (hts (.fieldLink RX12 63 "GapSongsModel" "rows" "[I") (List.mem_cons_of_mem _ (List.mem_append_left _ (List.mem_of_getElem? (i := 0) rfl)))) (fun _ h9 => h9) rfl dX12_generation_36 ?_
      refine lv_sipush (v := 316) hx hb dX12_generation_39 (by decide) ?_
      refine lv_iconst (v := 5) hx hb dX12_generation_42 (by decide) ?_
      refine lv_iload_n hx hb dX12_generation_43 rfl (lv_at hl 2 rfl) ?_
      refine lv_imul hx hb dX12_generation_44 ?_
      refine lv_iadd hx hb dX12_generation_45 ?_
      refine lv_iload_n hx hb dX12_generation_46 rfl (lv_at hl 1 rfl) ?_
      refine lv_iadd hx hb dX12_generation_47 ?_
      obtain ⟨g4, h⟩ := gs_gd_e h
      refine va_iald hx hb hk.1 hP 1 0 rfl rfl (gs_in_e g4) dX12_generation_48 ?_
      refine lv_istore_n (lv' := [(3, .int (r_t_rows ((316 + (5 * x3)) + x2).toNatClampNeg)), (0, .ref a_t), (2, .int x2), (4, .int x4)]) hx hb dX12_generation_49 rfl hl (by decide) rfl (fun ls hl => ?_)
      refine lv_iinc (v := x4 + 1) (lv' := [(4, .int (x4 + 1)), (3, .int (r_t_rows ((316 + (5 * x3)) + x2).toNatClampNeg)), (0, .ref a_t), (2, .int x2)]) hx hb dX12_generation_50 hl (k := 3) rfl rfl (by decide) rfl (fun ls hl => ?_)
      refine lv_goto (tgt := 18) hx hb dX12_generation_53 (by decide) ?_
      exact hK18 (r_t_rows ((316 + (5 * x3)) + x2).toNatClampNeg) (x4 + 1) h _ (lv_sub hl [2, 3, 1, 0] rfl)
    · replace h := gs_ift c3 h
      refine lv_iload hx hb dX12_generation_32 (lv_at hl 3 rfl) ?_
      have h := Option.some.inj h
      subst h
      exact hret _ _ dX12_generation_34
set_option maxHeartbeats 4000000 in
set_option maxRecDepth 100000 in
theorem t_X12_generation_18_n {p : Program} {l : Launch} {e : Env} {s : State} {m : MethodId} {args : Array Value} {below : List Frame} {meth : Method} {c : Code} {Q : State → Prop} {E : gs_E} {a_t a_t_rows a_t_songLong a_t_firstNote a_t_wit a_t_code a_t_tape a_t_refused a_t_newSongLong a_t_newFirstNote a_t_newWit a_t_newRow a_t_readCode a_t_waits a_t_tested a_t_isTold a_t_ahead a_t_told a_t_pile a_t_common a_t_mostOf a_t_likes a_t_heard a_t_soon a_t_soonAll a_t_imageRow a_t_imageAhead a_t_imageHears : Nat} {v_t_thrown : Int32} {v_t_songs : Int32} {v_t_people : Int32} {v_t_forgetsAt : Int32} {v_t_fillsAt : Int32} {v_t_taped : Int32} {v_t_faultKind : Int32} {v_t_faultPlace : Int32} {v_t_long1 : Int32} {v_t_next0 : Int32} {v_t_sort : Int32} {v_t_place : Int32} {v_t_long0 : Int32} {v_t_value : Int32} {v_t_sign : Int32} {v_t_word : Int64} {v_t_newSongs : Int32} {v_t_newPeople : Int32} {v_t_newForgetsAt : Int32} {v_t_newFillsAt : Int32} {v_t_top : Int32} {v_t_firstValue : Int32} {v_t_lastValue : Int32} {v_t_waiting : Int32} {v_t_depth : Int32} {v_t_acts : Int32} {v_t_isWinter : Int32} {v_t_learntNow : Int32} {v_t_forgottenNow : Int32} {v_t_heardMany : Int32} {v_t_its0 : Int32} {v_t_hasImage : Int32} {v_t_imageActs : Int32} {v_t_imageHeard : Int32} {r_t_rows : Nat → Int32} {rr : Int32} (X0 : gs_X wsX12_generation cX12_generation RX12 5 (some .int) p s m args meth c) (hk : gs_K E s) (hP : va_P E.1 vwCl (w_X12_generation E a_t a_t_rows a_t_songLong a_t_firstNote a_t_wit a_t_code a_t_tape a_t_refused a_t_newSongLong a_t_newFirstNote a_t_newWit a_t_newRow a_t_readCode a_t_waits a_t_tested a_t_isTold a_t_ahead a_t_told a_t_pile a_t_common a_t_mostOf a_t_likes a_t_heard a_t_soon a_t_soonAll a_t_imageRow a_t_imageAhead a_t_imageHears v_t_thrown v_t_songs v_t_people v_t_forgetsAt v_t_fillsAt v_t_taped v_t_faultKind v_t_faultPlace v_t_long1 v_t_next0 v_t_sort v_t_place v_t_long0 v_t_value v_t_sign v_t_word v_t_newSongs v_t_newPeople v_t_newForgetsAt v_t_newFillsAt v_t_top v_t_firstValue v_t_lastValue v_t_waiting v_t_depth v_t_acts v_t_isWinter v_t_learntNow v_t_forgottenNow v_t_heardMany v_t_its0 v_t_hasImage v_t_imageActs v_t_imageHeard r_t_rows) s.heap) (hD : va_D (fun _ => True) (w_X12_generation E a_t a_t_rows a_t_songLong a_t_firstNote a_t_wit a_t_code a_t_tape a_t_refused a_t_newSongLong a_t_newFirstNote a_t_newWit a_t_newRow a_t_readCode a_t_waits a_t_tested a_t_isTold a_t_ahead a_t_told a_t_pile a_t_common a_t_mostOf a_t_likes a_t_heard a_t_soon a_t_soonAll a_t_imageRow a_t_imageAhead a_t_imageHears v_t_thrown v_t_songs v_t_people v_t_forgetsAt v_t_fillsAt v_t_taped v_t_faultKind v_t_faultPlace v_t_long1 v_t_next0 v_t_sort v_t_place v_t_long0 v_t_value v_t_sign v_t_word v_t_newSongs v_t_newPeople v_t_newForgetsAt v_t_newFillsAt v_t_top v_t_firstValue v_t_lastValue v_t_waiting v_t_depth v_t_acts v_t_isWinter v_t_learntNow v_t_forgottenNow v_t_heardMany v_t_its0 v_t_hasImage v_t_imageActs v_t_imageHeard r_t_rows)) {x2 : Int32} (hret : ∀ (pc : Nat) (ls : Array Slot), decode cX12_generation pc = .ok (.ireturn, 1) → W p l e rm_X12_generation s m args below meth c s.heap [] 0 0 Q (F0 m pc ls [.int rr])) : ∀ (n : Nat) (x3 : Int32) (x4 : Int32), gs_it (fun _ _ => none) (f_X12_generation_18 x2 v_t_people r_t_rows) n x3 x4 = some rr → S_X12_generation_18 p l e s m args below meth c Q a_t a_t_rows a_t_songLong a_t_firstNote a_t_wit a_t_code a_t_tape a_t_refused a_t_newSongLong a_t_newFirstNote a_t_newWit a_t_newRow a_t_readCode a_t_waits a_t_tested a_t_isTold a_t_ahead a_t_told a_t_pile a_t_common a_t_mostOf a_t_likes a_t_heard a_t_soon a_t_soonAll a_t_imageRow a_t_imageAhead a_t_imageHears x2 x3 x4 := by
  intro n
  induction n with
  | zero =>
    intro x3 x4 h
    have h : (none : Option (Int32)) = some rr := h
    cases h
  | succ n ih =>
    intro x3 x4 h
    exact t_X12_generation_18_b X0 hk hP hD hret  (K18 := gs_it (fun _ _ => none) (f_X12_generation_18 x2 v_t_people r_t_rows) n) (hK18 := ih) (h := h)
theorem t_X12_generation_18 {p : Program} {l : Launch} {e : Env} {s : State} {m : MethodId} {args : Array Value} {below : List Frame} {meth : Method} {c : Code} {Q : State → Prop} {E : gs_E} {a_t a_t_rows a_t_songLong a_t_firstNote a_t_wit a_t_code a_t_tape a_t_refused a_t_newSongLong a_t_newFirstNote a_t_newWit a_t_newRow a_t_readCode a_t_waits a_t_tested a_t_isTold a_t_ahead a_t_told a_t_pile a_t_common a_t_mostOf a_t_likes a_t_heard a_t_soon a_t_soonAll a_t_imageRow a_t_imageAhead a_t_imageHears : Nat} {v_t_thrown : Int32} {v_t_songs : Int32} {v_t_people : Int32} {v_t_forgetsAt : Int32} {v_t_fillsAt : Int32} {v_t_taped : Int32} {v_t_faultKind : Int32} {v_t_faultPlace : Int32} {v_t_long1 : Int32} {v_t_next0 : Int32} {v_t_sort : Int32} {v_t_place : Int32} {v_t_long0 : Int32} {v_t_value : Int32} {v_t_sign : Int32} {v_t_word : Int64} {v_t_newSongs : Int32} {v_t_newPeople : Int32} {v_t_newForgetsAt : Int32} {v_t_newFillsAt : Int32} {v_t_top : Int32} {v_t_firstValue : Int32} {v_t_lastValue : Int32} {v_t_waiting : Int32} {v_t_depth : Int32} {v_t_acts : Int32} {v_t_isWinter : Int32} {v_t_learntNow : Int32} {v_t_forgottenNow : Int32} {v_t_heardMany : Int32} {v_t_its0 : Int32} {v_t_hasImage : Int32} {v_t_imageActs : Int32} {v_t_imageHeard : Int32} {r_t_rows : Nat → Int32} {rr : Int32} (X0 : gs_X wsX12_generation cX12_generation RX12 5 (some .int) p s m args meth c) (hk : gs_K E s) (hP : va_P E.1 vwCl (w_X12_generation E a_t a_t_rows a_t_songLong a_t_firstNote a_t_wit a_t_code a_t_tape a_t_refused a_t_newSongLong a_t_newFirstNote a_t_newWit a_t_newRow a_t_readCode a_t_waits a_t_tested a_t_isTold a_t_ahead a_t_told a_t_pile a_t_common a_t_mostOf a_t_likes a_t_heard a_t_soon a_t_soonAll a_t_imageRow a_t_imageAhead a_t_imageHears v_t_thrown v_t_songs v_t_people v_t_forgetsAt v_t_fillsAt v_t_taped v_t_faultKind v_t_faultPlace v_t_long1 v_t_next0 v_t_sort v_t_place v_t_long0 v_t_value v_t_sign v_t_word v_t_newSongs v_t_newPeople v_t_newForgetsAt v_t_newFillsAt v_t_top v_t_firstValue v_t_lastValue v_t_waiting v_t_depth v_t_acts v_t_isWinter v_t_learntNow v_t_forgottenNow v_t_heardMany v_t_its0 v_t_hasImage v_t_imageActs v_t_imageHeard r_t_rows) s.heap) (hD : va_D (fun _ => True) (w_X12_generation E a_t a_t_rows a_t_songLong a_t_firstNote a_t_wit a_t_code a_t_tape a_t_refused a_t_newSongLong a_t_newFirstNote a_t_newWit a_t_newRow a_t_readCode a_t_waits a_t_tested a_t_isTold a_t_ahead a_t_told a_t_pile a_t_common a_t_mostOf a_t_likes a_t_heard a_t_soon a_t_soonAll a_t_imageRow a_t_imageAhead a_t_imageHears v_t_thrown v_t_songs v_t_people v_t_forgetsAt v_t_fillsAt v_t_taped v_t_faultKind v_t_faultPlace v_t_long1 v_t_next0 v_t_sort v_t_place v_t_long0 v_t_value v_t_sign v_t_word v_t_newSongs v_t_newPeople v_t_newForgetsAt v_t_newFillsAt v_t_top v_t_firstValue v_t_lastValue v_t_waiting v_t_depth v_t_acts v_t_isWinter v_t_learntNow v_t_forgottenNow v_t_heardMany v_t_its0 v_t_hasImage v_t_imageActs v_t_imageHeard r_t_rows)) {x2 : Int32} {x3 : Int32} {x4 : Int32} (hret : ∀ (pc : Nat) (ls : Array Slot), decode cX12_generation pc = .ok (.ireturn, 1) → W p l e rm_X12_generation s m args below meth c s.heap [] 0 0 Q (F0 m pc ls [.int rr])) (h : gs_it (fun _ _ => none) (f_X12_generation_18 x2 v_t_people r_t_rows) gs_fuel x3 x4 = some rr) : S_X12_generation_18 p l e s m args below meth c Q a_t a_t_rows a_t_songLong a_t_firstNote a_t_wit a_t_code a_t_tape a_t_refused a_t_newSongLong a_t_newFirstNote a_t_newWit a_t_newRow a_t_readCode a_t_waits a_t_tested a_t_isTold a_t_ahead a_t_told a_t_pile a_t_common a_t_mostOf a_t_likes a_t_heard a_t_soon a_t_soonAll a_t_imageRow a_t_imageAhead a_t_imageHears x2 x3 x4 :=
  t_X12_generation_18_n X0 hk hP hD hret  gs_fuel x3 x4 h
def f_X12_generation (x1 : Int32) (x2 : Int32) (v_t_people : Int32) (r_t_rows : Nat → Int32) : Option (Int32) :=
  gs_gd (gs_in ((316 + (5 * x1)) + x2) 744) <|
  gs_it (fun _ _ => none) (f_X12_generation_18 x2 v_t_people r_t_rows) gs_fuel (r_t_rows ((316 + (5 * x1)) + x2).toNatClampNeg) 0
set_option maxHeartbeats 4000000 in
set_option maxRecDepth 100000 in
theorem c_X12_generation (l : Launch) (E : gs_E) (a_t a_t_rows a_t_songLong a_t_firstNote a_t_wit a_t_code a_t_tape a_t_refused a_t_newSongLong a_t_newFirstNote a_t_newWit a_t_newRow a_t_readCode a_t_waits a_t_tested a_t_isTold a_t_ahead a_t_told a_t_pile a_t_common a_t_mostOf a_t_likes a_t_heard a_t_soon a_t_soonAll a_t_imageRow a_t_imageAhead a_t_imageHears : Nat) (v_t_thrown : Int32) (v_t_songs : Int32) (v_t_people : Int32) (v_t_forgetsAt : Int32) (v_t_fillsAt : Int32) (v_t_taped : Int32) (v_t_faultKind : Int32) (v_t_faultPlace : Int32) (v_t_long1 : Int32) (v_t_next0 : Int32) (v_t_sort : Int32) (v_t_place : Int32) (v_t_long0 : Int32) (v_t_value : Int32) (v_t_sign : Int32) (v_t_word : Int64) (v_t_newSongs : Int32) (v_t_newPeople : Int32) (v_t_newForgetsAt : Int32) (v_t_newFillsAt : Int32) (v_t_top : Int32) (v_t_firstValue : Int32) (v_t_lastValue : Int32) (v_t_waiting : Int32) (v_t_depth : Int32) (v_t_acts : Int32) (v_t_isWinter : Int32) (v_t_learntNow : Int32) (v_t_forgottenNow : Int32) (v_t_heardMany : Int32) (v_t_its0 : Int32) (v_t_hasImage : Int32) (v_t_imageActs : Int32) (v_t_imageHeard : Int32) (r_t_rows : Nat → Int32) (x1 : Int32) (x2 : Int32) (rr : Int32) (h : f_X12_generation x1 x2 v_t_people r_t_rows = some rr) : gs_MR l yX12_generation wsX12_generation rm_X12_generation [.ref a_t, .int x1, .int x2] E (w_X12_generation E a_t a_t_rows a_t_songLong a_t_firstNote a_t_wit a_t_code a_t_tape a_t_refused a_t_newSongLong a_t_newFirstNote a_t_newWit a_t_newRow a_t_readCode a_t_waits a_t_tested a_t_isTold a_t_ahead a_t_told a_t_pile a_t_common a_t_mostOf a_t_likes a_t_heard a_t_soon a_t_soonAll a_t_imageRow a_t_imageAhead a_t_imageHears v_t_thrown v_t_songs v_t_people v_t_forgetsAt v_t_fillsAt v_t_taped v_t_faultKind v_t_faultPlace v_t_long1 v_t_next0 v_t_sort v_t_place v_t_long0 v_t_value v_t_sign v_t_word v_t_newSongs v_t_newPeople v_t_newForgetsAt v_t_newFillsAt v_t_top v_t_firstValue v_t_lastValue v_t_waiting v_t_depth v_t_acts v_t_isWinter v_t_learntNow v_t_forgottenNow v_t_heardMany v_t_its0 v_t_hasImage v_t_imageActs v_t_imageHeard r_t_rows) (some (.int rr)) := by
  refine Met.ofW (cc := cX12_generation) (maxL := 5) (ret := (some .int)) (by decide) rfl ?_
  intro p e s m args below meth c s₁ B hml hv
  obtain ⟨rfl, hP, hk, hD0⟩ := hv
  have X0 : gs_X wsX12_generation cX12_generation RX12 5 (some .int) p s m ([.ref a_t, .int x1, .int x2] : List Value).toArray meth c := gs_X.of B hml
  obtain ⟨hx, hb, -, hown, hts, hr, hlk⟩ := id X0
  have hD := hD0
  have hret : ∀ (pc : Nat) (ls : Array Slot), decode cX12_generation pc = .ok (.ireturn, 1) → W p l e rm_X12_generation s m ([.ref a_t, .int x1, .int x2] : List Value).toArray below meth c s.heap [] 0 0 (MQ below (gs_QR (some (.int rr))) ([.ref a_t, .int x1, .int x2] : List Value).toArray s 0 0 (fun _ => False)) (F0 m pc ls [.int rr]) := fun pc ls hd => W.iret hx hb hr (fun t ht hW => ⟨rfl, ht⟩) (fun q hq => by cases hq) hd
  have hl := lv_entry ([.ref a_t, .int x1, .int x2]) (n := 5) (Nat.le_of_ble_eq_true rfl)
  rw [lg_entry_eq]
  generalize (lg_sl ([.ref a_t, .int x1, .int x2]) ++ List.replicate (5 - (lg_sl ([.ref a_t, .int x1, .int x2])).length) Slot.unset).toArray = ls at hl ⊢
  have hl : lv_has ls 5 [(0, .ref a_t), (1, .int x1), (2, .int x2)] := hl
  unfold f_X12_generation at h
  refine lv_aload_n hx hb dX12_generation_0 rfl (lv_at hl 0 rfl) ?_
  refine va_get (D := E.1) (ci := 12) (v := .ref a_t_rows) (C := RX12) (T := TX12) (N := 61) hx hb hts (fun _ h => (List.mem_cons_of_mem _ (List.mem_append_right _ h))) hown hk.1 hP 0 rfl rfl 39 (by decide) (hts (.fieldLink RX12 63 "GapSongsModel" "rows" "[I") (List.mem_cons_of_mem _ (List.mem_append_left _ (List.mem_of_getElem? (i := 0) rfl)))) (fun _ h9 => h9) rfl dX12_generation_1 ?_
  refine lv_sipush (v := 316) hx hb dX12_generation_4 (by decide) ?_
  refine lv_iconst (v := 5) hx hb dX12_generation_7 (by decide) ?_
  refine lv_iload_n hx hb dX12_generation_8 rfl (lv_at hl 1 rfl) ?_
  refine lv_imul hx hb dX12_generation_9 ?_
  refine lv_iadd hx hb dX12_generation_10 ?_
  refine lv_iload_n hx hb dX12_generation_11 rfl (lv_at hl 2 rfl) ?_
  refine lv_iadd hx hb dX12_generation_12 ?_
  obtain ⟨g1, h⟩ := gs_gd_e h
  refine va_iald hx hb hk.1 hP 1 0 rfl rfl (gs_in_e g1) dX12_generation_13 ?_
  refine lv_istore_n (lv' := [(3, .int (r_t_rows ((316 + (5 * x1)) + x2).toNatClampNeg)), (0, .ref a_t), (1, .int x1), (2, .int x2)]) hx hb dX12_generation_14 rfl hl (by decide) rfl (fun ls hl => ?_)
  refine lv_iconst (v := 0) hx hb dX12_generation_15 (by decide) ?_
  refine lv_istore (lv' := [(4, .int 0), (3, .int (r_t_rows ((316 + (5 * x1)) + x2).toNatClampNeg)), (0, .ref a_t), (1, .int x1), (2, .int x2)]) hx hb dX12_generation_16 hl (by decide) rfl (fun ls hl => ?_)
  exact t_X12_generation_18 X0 hk hP hD hret  (h := h) _ (lv_sub hl [2, 4, 1, 0] rfl)

set_option maxRecDepth 100000 in
theorem ggX12_has_X12_isPerson : GoodIn wsX12_has wsX12_isPerson := goodIn_r _ [7, 8, 9, 10, 11, 6, 12, 1, 54, 55, 56, 57, 58, 59, 60, 61, 62, 63, 64, 65, 66, 67, 68, 69, 70, 71, 72, 73, 74, 75, 76, 77, 78, 79, 80, 81, 82, 83, 84, 85, 86, 87, 88, 89, 90, 91, 92, 93, 94, 95, 96, 97, 98, 99, 100, 101, 102, 103, 104, 105, 106, 107, 108, 109, 110, 111, 112, 113, 114] rfl (by decide +kernel)
set_option maxRecDepth 100000 in
theorem gX12_has_X12_isPerson : GoodIn wsX12_has (wsV RX12 387 RX12 yX12_isPerson wsX12_isPerson) := goodIn_app (goodIn_of _ (by decide +kernel)) ggX12_has_X12_isPerson
set_option maxRecDepth 100000 in
theorem ggX12_has_X12_isSong : GoodIn wsX12_has wsX12_isSong := goodIn_r _ [16, 17, 9, 10, 11, 6, 12, 1, 54, 55, 56, 57, 58, 59, 60, 61, 62, 63, 64, 65, 66, 67, 68, 69, 70, 71, 72, 73, 74, 75, 76, 77, 78, 79, 80, 81, 82, 83, 84, 85, 86, 87, 88, 89, 90, 91, 92, 93, 94, 95, 96, 97, 98, 99, 100, 101, 102, 103, 104, 105, 106, 107, 108, 109, 110, 111, 112, 113, 114] rfl (by decide +kernel)
set_option maxRecDepth 100000 in
theorem gX12_has_X12_isSong : GoodIn wsX12_has (wsV RX12 374 RX12 yX12_isSong wsX12_isSong) := goodIn_app (goodIn_of _ (by decide +kernel)) ggX12_has_X12_isSong
set_option maxRecDepth 100000 in
theorem ggX12_has_X12_isWhat : GoodIn wsX12_has wsX12_isWhat := goodIn_r _ [21, 22, 23, 6, 24, 9, 10, 11, 12, 1, 54, 55, 56, 57, 58, 59, 60, 61, 62, 63, 64, 65, 66, 67, 68, 69, 70, 71, 72, 73, 74, 75, 76, 77, 78, 79, 80, 81, 82, 83, 84, 85, 86, 87, 88, 89, 90, 91, 92, 93, 94, 95, 96, 97, 98, 99, 100, 101, 102, 103, 104, 105, 106, 107, 108, 109, 110, 111, 112, 113, 114] rfl (by decide +kernel)
set_option maxRecDepth 100000 in
theorem gX12_has_X12_isWhat : GoodIn wsX12_has (wsV RX12 377 RX12 yX12_isWhat wsX12_isWhat) := goodIn_app (goodIn_of _ (by decide +kernel)) ggX12_has_X12_isWhat
set_option maxRecDepth 100000 in
theorem ggX12_has_X12_doesHave : GoodIn wsX12_has wsX12_doesHave := goodIn_r _ [28, 2, 54, 55, 56, 57, 58, 59, 60, 61, 62, 63, 64, 65, 66, 67, 68, 69, 70, 71, 72, 73, 74, 75, 76, 77, 78, 79, 80, 81, 82, 83, 84, 85, 86, 87, 88, 89, 90, 91, 92, 93, 94, 95, 96, 97, 98, 99, 100, 101, 102, 103, 104, 105, 106, 107, 108, 109, 110, 111, 112, 113, 114] rfl (by decide +kernel)
set_option maxRecDepth 100000 in
theorem gX12_has_X12_doesHave : GoodIn wsX12_has (wsV RX12 297 RX12 yX12_doesHave wsX12_doesHave) := goodIn_app (goodIn_of _ (by decide +kernel)) ggX12_has_X12_doesHave
set_option maxRecDepth 100000 in
theorem ggX12_has_X12_gapsIn : GoodIn wsX12_has wsX12_gapsIn := goodIn_r _ [32, 33, 2, 34, 35, 6, 36, 54, 55, 56, 57, 58, 59, 60, 61, 62, 63, 64, 65, 66, 67, 68, 69, 70, 71, 72, 73, 74, 75, 76, 77, 78, 79, 80, 81, 82, 83, 84, 85, 86, 87, 88, 89, 90, 91, 92, 93, 94, 95, 96, 97, 98, 99, 100, 101, 102, 103, 104, 105, 106, 107, 108, 109, 110, 111, 112, 113, 114] rfl (by decide +kernel)
set_option maxRecDepth 100000 in
theorem gX12_has_X12_gapsIn : GoodIn wsX12_has (wsV RX12 304 RX12 yX12_gapsIn wsX12_gapsIn) := goodIn_app (goodIn_of _ (by decide +kernel)) ggX12_has_X12_gapsIn
set_option maxRecDepth 100000 in
theorem ggX12_has_X12_likeIn : GoodIn wsX12_has wsX12_likeIn := goodIn_r _ [40, 33, 2, 41, 34, 35, 6, 36, 54, 55, 56, 57, 58, 59, 60, 61, 62, 63, 64, 65, 66, 67, 68, 69, 70, 71, 72, 73, 74, 75, 76, 77, 78, 79, 80, 81, 82, 83, 84, 85, 86, 87, 88, 89, 90, 91, 92, 93, 94, 95, 96, 97, 98, 99, 100, 101, 102, 103, 104, 105, 106, 107, 108, 109, 110, 111, 112, 113, 114] rfl (by decide +kernel)
set_option maxRecDepth 100000 in
theorem gX12_has_X12_likeIn : GoodIn wsX12_has (wsV RX12 396 RX12 yX12_likeIn wsX12_likeIn) := goodIn_app (goodIn_of _ (by decide +kernel)) ggX12_has_X12_likeIn
set_option maxRecDepth 100000 in
theorem ggX12_has_X12_pupils : GoodIn wsX12_has wsX12_pupils := goodIn_r _ [45, 8, 2, 54, 55, 56, 57, 58, 59, 60, 61, 62, 63, 64, 65, 66, 67, 68, 69, 70, 71, 72, 73, 74, 75, 76, 77, 78, 79, 80, 81, 82, 83, 84, 85, 86, 87, 88, 89, 90, 91, 92, 93, 94, 95, 96, 97, 98, 99, 100, 101, 102, 103, 104, 105, 106, 107, 108, 109, 110, 111, 112, 113, 114] rfl (by decide +kernel)
set_option maxRecDepth 100000 in
theorem gX12_has_X12_pupils : GoodIn wsX12_has (wsV RX12 399 RX12 yX12_pupils wsX12_pupils) := goodIn_app (goodIn_of _ (by decide +kernel)) ggX12_has_X12_pupils
set_option maxRecDepth 100000 in
theorem ggX12_has_X12_generation : GoodIn wsX12_has wsX12_generation := goodIn_r _ [49, 2, 8, 54, 55, 56, 57, 58, 59, 60, 61, 62, 63, 64, 65, 66, 67, 68, 69, 70, 71, 72, 73, 74, 75, 76, 77, 78, 79, 80, 81, 82, 83, 84, 85, 86, 87, 88, 89, 90, 91, 92, 93, 94, 95, 96, 97, 98, 99, 100, 101, 102, 103, 104, 105, 106, 107, 108, 109, 110, 111, 112, 113, 114] rfl (by decide +kernel)
set_option maxRecDepth 100000 in
theorem gX12_has_X12_generation : GoodIn wsX12_has (wsV RX12 402 RX12 yX12_generation wsX12_generation) := goodIn_app (goodIn_of _ (by decide +kernel)) ggX12_has_X12_generation
set_option maxRecDepth 100000 in
theorem ggX12_has_X12_taughtBy : GoodIn wsX12_has wsX12_taughtBy := goodIn_r _ [53, 2, 54, 55, 56, 57, 58, 59, 60, 61, 62, 63, 64, 65, 66, 67, 68, 69, 70, 71, 72, 73, 74, 75, 76, 77, 78, 79, 80, 81, 82, 83, 84, 85, 86, 87, 88, 89, 90, 91, 92, 93, 94, 95, 96, 97, 98, 99, 100, 101, 102, 103, 104, 105, 106, 107, 108, 109, 110, 111, 112, 113, 114] rfl (by decide +kernel)
set_option maxRecDepth 100000 in
theorem gX12_has_X12_taughtBy : GoodIn wsX12_has (wsV RX12 405 RX12 yX12_taughtBy wsX12_taughtBy) := goodIn_app (goodIn_of _ (by decide +kernel)) ggX12_has_X12_taughtBy
theorem dX12_has_0 : decode cX12_has 0 = .ok (.aload_n 0, 1) := by decide +kernel
theorem dX12_has_1 : decode cX12_has 1 = .ok (.iconst 0, 1) := by decide +kernel
theorem dX12_has_2 : decode cX12_has 2 = .ok (.putfield 102, 3) := by decide +kernel
theorem dX12_has_5 : decode cX12_has 5 = .ok (.aload_n 0, 1) := by decide +kernel
theorem dX12_has_6 : decode cX12_has 6 = .ok (.iload_n 1, 1) := by decide +kernel
theorem dX12_has_7 : decode cX12_has 7 = .ok (.invokevirtual 387, 3) := by decide +kernel
theorem dX12_has_10 : decode cX12_has 10 = .ok (.ifCond .eq 21, 3) := by decide +kernel
theorem dX12_has_13 : decode cX12_has 13 = .ok (.aload_n 0, 1) := by decide +kernel
theorem dX12_has_14 : decode cX12_has 14 = .ok (.iload_n 2, 1) := by decide +kernel
theorem dX12_has_15 : decode cX12_has 15 = .ok (.invokevirtual 374, 3) := by decide +kernel
theorem dX12_has_18 : decode cX12_has 18 = .ok (.ifCond .eq 13, 3) := by decide +kernel
theorem dX12_has_21 : decode cX12_has 21 = .ok (.aload_n 0, 1) := by decide +kernel
theorem dX12_has_22 : decode cX12_has 22 = .ok (.iload_n 3, 1) := by decide +kernel
theorem dX12_has_23 : decode cX12_has 23 = .ok (.bipush 6, 2) := by decide +kernel
theorem dX12_has_25 : decode cX12_has 25 = .ok (.invokevirtual 377, 3) := by decide +kernel
theorem dX12_has_28 : decode cX12_has 28 = .ok (.ifCond .ne 5, 3) := by decide +kernel
theorem dX12_has_31 : decode cX12_has 31 = .ok (.iconst 0, 1) := by decide +kernel
theorem dX12_has_32 : decode cX12_has 32 = .ok (.ireturn, 1) := by decide +kernel
theorem dX12_has_33 : decode cX12_has 33 = .ok (.aload_n 0, 1) := by decide +kernel
theorem dX12_has_34 : decode cX12_has 34 = .ok (.iconst 0, 1) := by decide +kernel
theorem dX12_has_35 : decode cX12_has 35 = .ok (.iload_n 1, 1) := by decide +kernel
theorem dX12_has_36 : decode cX12_has 36 = .ok (.iload_n 2, 1) := by decide +kernel
theorem dX12_has_37 : decode cX12_has 37 = .ok (.invokevirtual 297, 3) := by decide +kernel
theorem dX12_has_40 : decode cX12_has 40 = .ok (.istore 4, 2) := by decide +kernel
theorem dX12_has_42 : decode cX12_has 42 = .ok (.iload_n 3, 1) := by decide +kernel
theorem dX12_has_43 : decode cX12_has 43 = .ok (.tableswitch 112 0 5 #[37, 48, 65, 82, 97, 105], 37) := by decide +kernel
theorem dX12_has_80 : decode cX12_has 80 = .ok (.iload 4, 2) := by decide +kernel
theorem dX12_has_82 : decode cX12_has 82 = .ok (.ifCond .eq 7, 3) := by decide +kernel
theorem dX12_has_85 : decode cX12_has 85 = .ok (.iconst 1, 1) := by decide +kernel
theorem dX12_has_86 : decode cX12_has 86 = .ok (.goto 4, 3) := by decide +kernel
theorem dX12_has_89 : decode cX12_has 89 = .ok (.iconst 0, 1) := by decide +kernel
theorem dX12_has_90 : decode cX12_has 90 = .ok (.ireturn, 1) := by decide +kernel
theorem dX12_has_91 : decode cX12_has 91 = .ok (.iload 4, 2) := by decide +kernel
theorem dX12_has_93 : decode cX12_has 93 = .ok (.ifCond .eq 13, 3) := by decide +kernel
theorem dX12_has_96 : decode cX12_has 96 = .ok (.aload_n 0, 1) := by decide +kernel
theorem dX12_has_97 : decode cX12_has 97 = .ok (.iconst 0, 1) := by decide +kernel
theorem dX12_has_98 : decode cX12_has 98 = .ok (.iload_n 1, 1) := by decide +kernel
theorem dX12_has_99 : decode cX12_has 99 = .ok (.iload_n 2, 1) := by decide +kernel
theorem dX12_has_100 : decode cX12_has 100 = .ok (.invokevirtual 304, 3) := by decide +kernel
theorem dX12_has_103 : decode cX12_has 103 = .ok (.goto 4, 3) := by decide +kernel
theorem dX12_has_106 : decode cX12_has 106 = .ok (.iconst 0, 1) := by decide +kernel
theorem dX12_has_107 : decode cX12_has 107 = .ok (.ireturn, 1) := by decide +kernel
theorem dX12_has_108 : decode cX12_has 108 = .ok (.iload 4, 2) := by decide +kernel
theorem dX12_has_110 : decode cX12_has 110 = .ok (.ifCond .eq 13, 3) := by decide +kernel
theorem dX12_has_113 : decode cX12_has 113 = .ok (.aload_n 0, 1) := by decide +kernel
theorem dX12_has_114 : decode cX12_has 114 = .ok (.iconst 0, 1) := by decide +kernel
theorem dX12_has_115 : decode cX12_has 115 = .ok (.iload_n 1, 1) := by decide +kernel
theorem dX12_has_116 : decode cX12_has 116 = .ok (.iload_n 2, 1) := by decide +kernel
theorem dX12_has_117 : decode cX12_has 117 = .ok (.invokevirtual 396, 3) := by decide +kernel
theorem dX12_has_120 : decode cX12_has 120 = .ok (.goto 4, 3) := by decide +kernel
theorem dX12_has_123 : decode cX12_has 123 = .ok (.iconst 0, 1) := by decide +kernel
theorem dX12_has_124 : decode cX12_has 124 = .ok (.ireturn, 1) := by decide +kernel
theorem dX12_has_125 : decode cX12_has 125 = .ok (.aload_n 0, 1) := by decide +kernel
theorem dX12_has_126 : decode cX12_has 126 = .ok (.getfield 63, 3) := by decide +kernel
theorem dX12_has_129 : decode cX12_has 129 = .ok (.sipush 316, 3) := by decide +kernel
theorem dX12_has_132 : decode cX12_has 132 = .ok (.iconst 5, 1) := by decide +kernel
theorem dX12_has_133 : decode cX12_has 133 = .ok (.iload_n 1, 1) := by decide +kernel
theorem dX12_has_134 : decode cX12_has 134 = .ok (.imul, 1) := by decide +kernel
theorem dX12_has_135 : decode cX12_has 135 = .ok (.iadd, 1) := by decide +kernel
theorem dX12_has_136 : decode cX12_has 136 = .ok (.iload_n 2, 1) := by decide +kernel
theorem dX12_has_137 : decode cX12_has 137 = .ok (.iadd, 1) := by decide +kernel
theorem dX12_has_138 : decode cX12_has 138 = .ok (.iaload, 1) := by decide +kernel
theorem dX12_has_139 : decode cX12_has 139 = .ok (.ireturn, 1) := by decide +kernel
theorem dX12_has_140 : decode cX12_has 140 = .ok (.aload_n 0, 1) := by decide +kernel
theorem dX12_has_141 : decode cX12_has 141 = .ok (.iconst 0, 1) := by decide +kernel
theorem dX12_has_142 : decode cX12_has 142 = .ok (.iload_n 1, 1) := by decide +kernel
theorem dX12_has_143 : decode cX12_has 143 = .ok (.iload_n 2, 1) := by decide +kernel
theorem dX12_has_144 : decode cX12_has 144 = .ok (.invokevirtual 399, 3) := by decide +kernel
theorem dX12_has_147 : decode cX12_has 147 = .ok (.ireturn, 1) := by decide +kernel
theorem dX12_has_148 : decode cX12_has 148 = .ok (.aload_n 0, 1) := by decide +kernel
theorem dX12_has_149 : decode cX12_has 149 = .ok (.iload_n 1, 1) := by decide +kernel
theorem dX12_has_150 : decode cX12_has 150 = .ok (.iload_n 2, 1) := by decide +kernel
theorem dX12_has_151 : decode cX12_has 151 = .ok (.invokevirtual 402, 3) := by decide +kernel
theorem dX12_has_154 : decode cX12_has 154 = .ok (.ireturn, 1) := by decide +kernel
theorem dX12_has_155 : decode cX12_has 155 = .ok (.aload_n 0, 1) := by decide +kernel
theorem dX12_has_156 : decode cX12_has 156 = .ok (.iload_n 1, 1) := by decide +kernel
theorem dX12_has_157 : decode cX12_has 157 = .ok (.iload_n 2, 1) := by decide +kernel
theorem dX12_has_158 : decode cX12_has 158 = .ok (.invokevirtual 405, 3) := by decide +kernel
theorem dX12_has_161 : decode cX12_has 161 = .ok (.ireturn, 1) := by decide +kernel
abbrev w_X12_has (E : gs_E) (a_t a_t_songLong a_t_firstNote a_t_rows a_t_wit a_t_code a_t_tape a_t_refused a_t_newSongLong a_t_newFirstNote a_t_newWit a_t_newRow a_t_readCode a_t_waits a_t_tested a_t_isTold a_t_ahead a_t_told a_t_pile a_t_common a_t_mostOf a_t_likes a_t_heard a_t_soon a_t_soonAll a_t_imageRow a_t_imageAhead a_t_imageHears : Nat) (v_t_thrown : Int32) (v_t_songs : Int32) (v_t_people : Int32) (v_t_forgetsAt : Int32) (v_t_fillsAt : Int32) (v_t_taped : Int32) (v_t_faultKind : Int32) (v_t_faultPlace : Int32) (v_t_long1 : Int32) (v_t_next0 : Int32) (v_t_sort : Int32) (v_t_place : Int32) (v_t_long0 : Int32) (v_t_value : Int32) (v_t_sign : Int32) (v_t_word : Int64) (v_t_newSongs : Int32) (v_t_newPeople : Int32) (v_t_newForgetsAt : Int32) (v_t_newFillsAt : Int32) (v_t_top : Int32) (v_t_firstValue : Int32) (v_t_lastValue : Int32) (v_t_waiting : Int32) (v_t_depth : Int32) (v_t_acts : Int32) (v_t_isWinter : Int32) (v_t_learntNow : Int32) (v_t_forgottenNow : Int32) (v_t_heardMany : Int32) (v_t_its0 : Int32) (v_t_hasImage : Int32) (v_t_imageActs : Int32) (v_t_imageHeard : Int32) (r_t_songLong : Nat → Int32) (r_t_firstNote : Nat → Int32) (r_t_rows : Nat → Int32) : va_W := [(a_t, .inr (12, [.int v_t_thrown, .int v_t_songs, .int v_t_people, .int v_t_forgetsAt, .int v_t_fillsAt, .ref a_t_songLong, .ref a_t_firstNote, .ref a_t_wit, .ref a_t_code, .ref a_t_tape, .int v_t_taped, .int v_t_faultKind, .int v_t_faultPlace, .ref a_t_refused, .int v_t_long1, .int v_t_next0, .int v_t_sort, .int v_t_place, .int v_t_long0, .int v_t_value, .int v_t_sign, .long v_t_word, .int v_t_newSongs, .int v_t_newPeople, .int v_t_newForgetsAt, .int v_t_newFillsAt, .int v_t_top, .int v_t_firstValue, .int v_t_lastValue, .int v_t_waiting, .int v_t_depth, .ref a_t_newSongLong, .ref a_t_newFirstNote, .ref a_t_newWit, .ref a_t_newRow, .ref a_t_readCode, .ref a_t_waits, .ref a_t_tested, .ref a_t_isTold, .ref a_t_rows, .ref a_t_ahead, .int v_t_acts, .ref a_t_told, .ref a_t_pile, .int v_t_isWinter, .int v_t_learntNow, .int v_t_forgottenNow, .ref a_t_common, .ref a_t_mostOf, .ref a_t_likes, .int v_t_heardMany, .ref a_t_heard, .ref a_t_soon, .ref a_t_soonAll, .int v_t_its0, .int v_t_hasImage, .int v_t_imageActs, .int v_t_imageHeard, .ref a_t_imageRow, .ref a_t_imageAhead, .ref a_t_imageHears])), (a_t_songLong, .inl (E.2.1, 5, .inl r_t_songLong)), (a_t_firstNote, .inl (E.2.1, 40, .inl r_t_firstNote)), (a_t_rows, .inl (E.2.1, 744, .inl r_t_rows))]
abbrev rm_X12_has : Room := { frames := 2, cells := 0, slots := 0, locals := 47 }
def f_X12_has (x1 : Int32) (x2 : Int32) (x3 : Int32) (v_t_thrown : Int32) (v_t_songs : Int32) (v_t_people : Int32) (r_t_songLong : Nat → Int32) (r_t_firstNote : Nat → Int32) (r_t_rows : Nat → Int32) : Option (Int32 × Int32) :=
  gs_b2 (f_X12_isPerson x1 0 v_t_people) fun r1 o1_0 =>
  if r1 = 0 then
    some (0, o1_0)
  else
    gs_b2 (f_X12_isSong x2 o1_0 v_t_songs) fun r3 o3_0 =>
    if r3 = 0 then
      some (0, o3_0)
    else
      gs_b2 (f_X12_isWhat x3 6 o3_0) fun r5 o5_0 =>
      if r5 = 0 then
        some (0, o5_0)
      else
        gs_b1 (f_X12_doesHave 0 x1 x2 r_t_rows) fun r7 =>
        if x3 = 0 then
          if r7 = 0 then
            some (0, o5_0)
          else
            some (1, o5_0)
        else
          if x3 = 1 then
            if r7 = 0 then
              some (0, o5_0)
            else
              gs_b1 (f_X12_gapsIn 0 x1 x2 r_t_songLong r_t_rows) fun r12 =>
              some (r12, o5_0)
          else
            if x3 = 2 then
              if r7 = 0 then
                some (0, o5_0)
              else
                gs_b1 (f_X12_likeIn 0 x1 x2 r_t_songLong r_t_firstNote r_t_rows) fun r15 =>
                some (r15, o5_0)
            else
              if x3 = 3 then
                gs_gd (gs_in ((316 + (5 * x1)) + x2) 744) <|
                some (r_t_rows ((316 + (5 * x1)) + x2).toNatClampNeg, o5_0)
              else
                if x3 = 4 then
                  gs_b1 (f_X12_pupils 0 x1 x2 v_t_people r_t_rows) fun r19 =>
                  some (r19, o5_0)
                else
                  if x3 = 5 then
                    gs_b1 (f_X12_generation x1 x2 v_t_people r_t_rows) fun r21 =>
                    some (r21, o5_0)
                  else
                    gs_b1 (f_X12_taughtBy x1 x2 r_t_rows) fun r22 =>
                    some (r22, o5_0)
set_option maxHeartbeats 4000000 in
set_option maxRecDepth 100000 in
theorem c_X12_has (l : Launch) (E : gs_E) (a_t a_t_songLong a_t_firstNote a_t_rows a_t_wit a_t_code a_t_tape a_t_refused a_t_newSongLong a_t_newFirstNote a_t_newWit a_t_newRow a_t_readCode a_t_waits a_t_tested a_t_isTold a_t_ahead a_t_told a_t_pile a_t_common a_t_mostOf a_t_likes a_t_heard a_t_soon a_t_soonAll a_t_imageRow a_t_imageAhead a_t_imageHears : Nat) (v_t_thrown : Int32) (v_t_songs : Int32) (v_t_people : Int32) (v_t_forgetsAt : Int32) (v_t_fillsAt : Int32) (v_t_taped : Int32) (v_t_faultKind : Int32) (v_t_faultPlace : Int32) (v_t_long1 : Int32) (v_t_next0 : Int32) (v_t_sort : Int32) (v_t_place : Int32) (v_t_long0 : Int32) (v_t_value : Int32) (v_t_sign : Int32) (v_t_word : Int64) (v_t_newSongs : Int32) (v_t_newPeople : Int32) (v_t_newForgetsAt : Int32) (v_t_newFillsAt : Int32) (v_t_top : Int32) (v_t_firstValue : Int32) (v_t_lastValue : Int32) (v_t_waiting : Int32) (v_t_depth : Int32) (v_t_acts : Int32) (v_t_isWinter : Int32) (v_t_learntNow : Int32) (v_t_forgottenNow : Int32) (v_t_heardMany : Int32) (v_t_its0 : Int32) (v_t_hasImage : Int32) (v_t_imageActs : Int32) (v_t_imageHeard : Int32) (r_t_songLong : Nat → Int32) (r_t_firstNote : Nat → Int32) (r_t_rows : Nat → Int32) (x1 : Int32) (x2 : Int32) (x3 : Int32) (rr : Int32) (o_t_thrown : Int32) (h : f_X12_has x1 x2 x3 v_t_thrown v_t_songs v_t_people r_t_songLong r_t_firstNote r_t_rows = some (rr, o_t_thrown)) : gs_MW l yX12_has wsX12_has rm_X12_has [.ref a_t, .int x1, .int x2, .int x3] E (w_X12_has E a_t a_t_songLong a_t_firstNote a_t_rows a_t_wit a_t_code a_t_tape a_t_refused a_t_newSongLong a_t_newFirstNote a_t_newWit a_t_newRow a_t_readCode a_t_waits a_t_tested a_t_isTold a_t_ahead a_t_told a_t_pile a_t_common a_t_mostOf a_t_likes a_t_heard a_t_soon a_t_soonAll a_t_imageRow a_t_imageAhead a_t_imageHears v_t_thrown v_t_songs v_t_people v_t_forgetsAt v_t_fillsAt v_t_taped v_t_faultKind v_t_faultPlace v_t_long1 v_t_next0 v_t_sort v_t_place v_t_long0 v_t_value v_t_sign v_t_word v_t_newSongs v_t_newPeople v_t_newForgetsAt v_t_newFillsAt v_t_top v_t_firstValue v_t_lastValue v_t_waiting v_t_depth v_t_acts v_t_isWinter v_t_learntNow v_t_forgottenNow v_t_heardMany v_t_its0 v_t_hasImage v_t_imageActs v_t_imageHeard r_t_songLong r_t_firstNote r_t_rows) (w_X12_has E a_t a_t_songLong a_t_firstNote a_t_rows a_t_wit a_t_code a_t_tape a_t_refused a_t_newSongLong a_t_newFirstNote a_t_newWit a_t_newRow a_t_readCode a_t_waits a_t_tested a_t_isTold a_t_ahead a_t_told a_t_pile a_t_common a_t_mostOf a_t_likes a_t_heard a_t_soon a_t_soonAll a_t_imageRow a_t_imageAhead a_t_imageHears o_t_thrown v_t_songs v_t_people v_t_forgetsAt v_t_fillsAt v_t_taped v_t_faultKind v_t_faultPlace v_t_long1 v_t_next0 v_t_sort v_t_place v_t_long0 v_t_value v_t_sign v_t_word v_t_newSongs v_t_newPeople v_t_newForgetsAt v_t_newFillsAt v_t_top v_t_firstValue v_t_lastValue v_t_waiting v_t_depth v_t_acts v_t_isWinter v_t_learntNow v_t_forgottenNow v_t_heardMany v_t_its0 v_t_hasImage v_t_imageActs v_t_imageHeard r_t_songLong r_t_firstNote r_t_rows) (some (.int rr)) := by
  refine Met.ofW (cc := cX12_has) (maxL := 5) (ret := (some .int)) (by decide) rfl ?_
  intro p e s m args below meth c s₁ B hml hv
  obtain ⟨rfl, hP, hk, hD0⟩ := hv
  have X0 : gs_X wsX12_has cX12_has RX12 5 (some .int) p s m ([.ref a_t, .int x1, .int x2, .int x3] : List Value).toArray meth c := gs_X.of B hml
  obtain ⟨hx, hb, -, hown, hts, hr, hlk⟩ := id X0
  have hD := (gs_D_self hD0)
  generalize hAe : gs_w (w_X12_has E a_t a_t_songLong a_t_firstNote a_t_rows a_t_wit a_t_code a_t_tape a_t_refused a_t_newSongLong a_t_newFirstNote a_t_newWit a_t_newRow a_t_readCode a_t_waits a_t_tested a_t_isTold a_t_ahead a_t_told a_t_pile a_t_common a_t_mostOf a_t_likes a_t_heard a_t_soon a_t_soonAll a_t_imageRow a_t_imageAhead a_t_imageHears v_t_thrown v_t_songs v_t_people v_t_forgetsAt v_t_fillsAt v_t_taped v_t_faultKind v_t_faultPlace v_t_long1 v_t_next0 v_t_sort v_t_place v_t_long0 v_t_value v_t_sign v_t_word v_t_newSongs v_t_newPeople v_t_newForgetsAt v_t_newFillsAt v_t_top v_t_firstValue v_t_lastValue v_t_waiting v_t_depth v_t_acts v_t_isWinter v_t_learntNow v_t_forgottenNow v_t_heardMany v_t_its0 v_t_hasImage v_t_imageActs v_t_imageHeard r_t_songLong r_t_firstNote r_t_rows) = A at hD ⊢
  have hS : va_S A s.heap s.heap [] := va_S.rf
  have hret : ∀ (H : Heap) (locs : List Loc) (pc : Nat) (ls : Array Slot), va_P E.1 vwCl (w_X12_has E a_t a_t_songLong a_t_firstNote a_t_rows a_t_wit a_t_code a_t_tape a_t_refused a_t_newSongLong a_t_newFirstNote a_t_newWit a_t_newRow a_t_readCode a_t_waits a_t_tested a_t_isTold a_t_ahead a_t_told a_t_pile a_t_common a_t_mostOf a_t_likes a_t_heard a_t_soon a_t_soonAll a_t_imageRow a_t_imageAhead a_t_imageHears o_t_thrown v_t_songs v_t_people v_t_forgetsAt v_t_fillsAt v_t_taped v_t_faultKind v_t_faultPlace v_t_long1 v_t_next0 v_t_sort v_t_place v_t_long0 v_t_value v_t_sign v_t_word v_t_newSongs v_t_newPeople v_t_newForgetsAt v_t_newFillsAt v_t_top v_t_firstValue v_t_lastValue v_t_waiting v_t_depth v_t_acts v_t_isWinter v_t_learntNow v_t_forgottenNow v_t_heardMany v_t_its0 v_t_hasImage v_t_imageActs v_t_imageHeard r_t_songLong r_t_firstNote r_t_rows) H → va_S A s.heap H locs → decode cX12_has pc = .ok (.ireturn, 1) → W p l e rm_X12_has s m ([.ref a_t, .int x1, .int x2, .int x3] : List Value).toArray below meth c H locs 0 0 (MQ below (gs_QWA E A (w_X12_has E a_t a_t_songLong a_t_firstNote a_t_rows a_t_wit a_t_code a_t_tape a_t_refused a_t_newSongLong a_t_newFirstNote a_t_newWit a_t_newRow a_t_readCode a_t_waits a_t_tested a_t_isTold a_t_ahead a_t_told a_t_pile a_t_common a_t_mostOf a_t_likes a_t_heard a_t_soon a_t_soonAll a_t_imageRow a_t_imageAhead a_t_imageHears o_t_thrown v_t_songs v_t_people v_t_forgetsAt v_t_fillsAt v_t_taped v_t_faultKind v_t_faultPlace v_t_long1 v_t_next0 v_t_sort v_t_place v_t_long0 v_t_value v_t_sign v_t_word v_t_newSongs v_t_newPeople v_t_newForgetsAt v_t_newFillsAt v_t_top v_t_firstValue v_t_lastValue v_t_waiting v_t_depth v_t_acts v_t_isWinter v_t_learntNow v_t_forgottenNow v_t_heardMany v_t_its0 v_t_hasImage v_t_imageActs v_t_imageHeard r_t_songLong r_t_firstNote r_t_rows) (some (.int rr))) ([.ref a_t, .int x1, .int x2, .int x3] : List Value).toArray s 0 0 A) (F0 m pc ls [.int rr]) := fun H locs pc ls hP hS hd => W.iret hx hb hr (fun t ht hW => ⟨rfl, by rw [ht]; exact hP, hS.F ht⟩) hS.2.2 hd
  have hl := lv_entry ([.ref a_t, .int x1, .int x2, .int x3]) (n := 5) (Nat.le_of_ble_eq_true rfl)
  rw [lg_entry_eq]
  generalize (lg_sl ([.ref a_t, .int x1, .int x2, .int x3]) ++ List.replicate (5 - (lg_sl ([.ref a_t, .int x1, .int x2, .int x3])).length) Slot.unset).toArray = ls at hl ⊢
  have hl : lv_has ls 5 [(0, .ref a_t), (1, .int x1), (2, .int x2), (3, .int x3)] := hl
  unfold f_X12_has at h
  refine lv_aload_n hx hb dX12_has_0 rfl (lv_at hl 0 rfl) ?_
  refine lv_iconst (v := 0) hx hb dX12_has_1 (by decide) ?_
  refine va_put (D := E.1) (ci := 12) (v := .int 0) (ty := .int) (C := RX12) (T := TX12) (N := 61) hx hb hts (fun _ h => (List.mem_cons_of_mem _ (List.mem_append_right _ h))) tyX12 tyX12_ok nmX12 hown hk.1 hP hD hS 0 rfl rfl 0 (by decide) (hts (.fieldLink RX12 102 "GapSongsModel" "thrown" "I") (List.mem_cons_of_mem _ (List.mem_append_left _ (List.mem_append_left _ (List.mem_of_getElem? (i := 0) rfl))))) (fun _ h9 => h9) rfl (by decide +kernel) rfl rfl (Nat.le_of_ble_eq_true rfl) dX12_has_2 (fun H locs hP hD hS => ?_)
  have hP : va_P E.1 vwCl (w_X12_has E a_t a_t_songLong a_t_firstNote a_t_rows a_t_wit a_t_code a_t_tape a_t_refused a_t_newSongLong a_t_newFirstNote a_t_newWit a_t_newRow a_t_readCode a_t_waits a_t_tested a_t_isTold a_t_ahead a_t_told a_t_pile a_t_common a_t_mostOf a_t_likes a_t_heard a_t_soon a_t_soonAll a_t_imageRow a_t_imageAhead a_t_imageHears 0 v_t_songs v_t_people v_t_forgetsAt v_t_fillsAt v_t_taped v_t_faultKind v_t_faultPlace v_t_long1 v_t_next0 v_t_sort v_t_place v_t_long0 v_t_value v_t_sign v_t_word v_t_newSongs v_t_newPeople v_t_newForgetsAt v_t_newFillsAt v_t_top v_t_firstValue v_t_lastValue v_t_waiting v_t_depth v_t_acts v_t_isWinter v_t_learntNow v_t_forgottenNow v_t_heardMany v_t_its0 v_t_hasImage v_t_imageActs v_t_imageHeard r_t_songLong r_t_firstNote r_t_rows) H := hP
  have hD : va_D A (w_X12_has E a_t a_t_songLong a_t_firstNote a_t_rows a_t_wit a_t_code a_t_tape a_t_refused a_t_newSongLong a_t_newFirstNote a_t_newWit a_t_newRow a_t_readCode a_t_waits a_t_tested a_t_isTold a_t_ahead a_t_told a_t_pile a_t_common a_t_mostOf a_t_likes a_t_heard a_t_soon a_t_soonAll a_t_imageRow a_t_imageAhead a_t_imageHears 0 v_t_songs v_t_people v_t_forgetsAt v_t_fillsAt v_t_taped v_t_faultKind v_t_faultPlace v_t_long1 v_t_next0 v_t_sort v_t_place v_t_long0 v_t_value v_t_sign v_t_word v_t_newSongs v_t_newPeople v_t_newForgetsAt v_t_newFillsAt v_t_top v_t_firstValue v_t_lastValue v_t_waiting v_t_depth v_t_acts v_t_isWinter v_t_learntNow v_t_forgottenNow v_t_heardMany v_t_its0 v_t_hasImage v_t_imageActs v_t_imageHeard r_t_songLong r_t_firstNote r_t_rows) := hD
  refine lv_aload_n hx hb dX12_has_5 rfl (lv_at hl 0 rfl) ?_
  refine lv_iload_n hx hb dX12_has_6 rfl (lv_at hl 1 rfl) ?_
  obtain ⟨r1, o1_0, hz1, h⟩ := gs_b2_e h
  refine gs_backWi (ws1 := (w_X12_has E a_t a_t_songLong a_t_firstNote a_t_rows a_t_wit a_t_code a_t_tape a_t_refused a_t_newSongLong a_t_newFirstNote a_t_newWit a_t_newRow a_t_readCode a_t_waits a_t_tested a_t_isTold a_t_ahead a_t_told a_t_pile a_t_common a_t_mostOf a_t_likes a_t_heard a_t_soon a_t_soonAll a_t_imageRow a_t_imageAhead a_t_imageHears o1_0 v_t_songs v_t_people v_t_forgetsAt v_t_fillsAt v_t_taped v_t_faultKind v_t_faultPlace v_t_long1 v_t_next0 v_t_sort v_t_place v_t_long0 v_t_value v_t_sign v_t_word v_t_newSongs v_t_newPeople v_t_newForgetsAt v_t_newFillsAt v_t_top v_t_firstValue v_t_lastValue v_t_waiting v_t_depth v_t_acts v_t_isWinter v_t_learntNow v_t_forgottenNow v_t_heardMany v_t_its0 v_t_hasImage v_t_imageActs v_t_imageHeard r_t_songLong r_t_firstNote r_t_rows)) (va_runV (As := [.int x1]) (rest := []) ⟨hx, hb, hml, hown, hts⟩ (c_X12_isPerson l E a_t a_t_songLong a_t_firstNote a_t_wit a_t_code a_t_tape a_t_refused a_t_newSongLong a_t_newFirstNote a_t_newWit a_t_newRow a_t_readCode a_t_waits a_t_tested a_t_isTold a_t_rows a_t_ahead a_t_told a_t_pile a_t_common a_t_mostOf a_t_likes a_t_heard a_t_soon a_t_soonAll a_t_imageRow a_t_imageAhead a_t_imageHears 0 v_t_songs v_t_people v_t_forgetsAt v_t_fillsAt v_t_taped v_t_faultKind v_t_faultPlace v_t_long1 v_t_next0 v_t_sort v_t_place v_t_long0 v_t_value v_t_sign v_t_word v_t_newSongs v_t_newPeople v_t_newForgetsAt v_t_newFillsAt v_t_top v_t_firstValue v_t_lastValue v_t_waiting v_t_depth v_t_acts v_t_isWinter v_t_learntNow v_t_forgottenNow v_t_heardMany v_t_its0 v_t_hasImage v_t_imageActs v_t_imageHeard x1 r1 o1_0 hz1) (cwV 1 hts gX12_has_X12_isPerson rfl rfl rfl (by decide +kernel) ⟨Nat.le_of_ble_eq_true rfl, Nat.le_of_ble_eq_true rfl⟩) (gs_preV (ci := 12) hk hP hD (is := [0]) rfl rfl rfl rfl) rfl rfl hl.1 rfl (lv_room (Nat.le_of_ble_eq_true rfl)) dX12_has_7 ⟨Nat.zero_le _, Nat.zero_le _⟩) hP hD hS [0] rfl rfl rfl rfl (fun H locs hP hD hS => ?_)
  refine lv_if_eq (tgt := 31) hx hb dX12_has_10 (by decide) (fun c2 => ?_) (fun c2 => ?_)
  · replace h := gs_ift c2 h
    refine lv_iconst (v := 0) hx hb dX12_has_31 (by decide) ?_
    have h := Option.some.inj h
    obtain ⟨w0, h⟩ := Prod.mk.inj h
    subst h
    subst w0
    exact hret _ _ _ _ hP hS dX12_has_32
  · replace h := gs_iff c2 h
    refine lv_aload_n hx hb dX12_has_13 rfl (lv_at hl 0 rfl) ?_
    refine lv_iload_n hx hb dX12_has_14 rfl (lv_at hl 2 rfl) ?_
    obtain ⟨r3, o3_0, hz3, h⟩ := gs_b2_e h
    refine gs_backWi (ws1 := (w_X12_has E a_t a_t_songLong a_t_firstNote a_t_rows a_t_wit a_t_code a_t_tape a_t_refused a_t_newSongLong a_t_newFirstNote a_t_newWit a_t_newRow a_t_readCode a_t_waits a_t_tested a_t_isTold a_t_ahead a_t_told a_t_pile a_t_common a_t_mostOf a_t_likes a_t_heard a_t_soon a_t_soonAll a_t_imageRow a_t_imageAhead a_t_imageHears o3_0 v_t_songs v_t_people v_t_forgetsAt v_t_fillsAt v_t_taped v_t_faultKind v_t_faultPlace v_t_long1 v_t_next0 v_t_sort v_t_place v_t_long0 v_t_value v_t_sign v_t_word v_t_newSongs v_t_newPeople v_t_newForgetsAt v_t_newFillsAt v_t_top v_t_firstValue v_t_lastValue v_t_waiting v_t_depth v_t_acts v_t_isWinter v_t_learntNow v_t_forgottenNow v_t_heardMany v_t_its0 v_t_hasImage v_t_imageActs v_t_imageHeard r_t_songLong r_t_firstNote r_t_rows)) (va_runV (As := [.int x2]) (rest := []) ⟨hx, hb, hml, hown, hts⟩ (c_X12_isSong l E a_t a_t_songLong a_t_firstNote a_t_wit a_t_code a_t_tape a_t_refused a_t_newSongLong a_t_newFirstNote a_t_newWit a_t_newRow a_t_readCode a_t_waits a_t_tested a_t_isTold a_t_rows a_t_ahead a_t_told a_t_pile a_t_common a_t_mostOf a_t_likes a_t_heard a_t_soon a_t_soonAll a_t_imageRow a_t_imageAhead a_t_imageHears o1_0 v_t_songs v_t_people v_t_forgetsAt v_t_fillsAt v_t_taped v_t_faultKind v_t_faultPlace v_t_long1 v_t_next0 v_t_sort v_t_place v_t_long0 v_t_value v_t_sign v_t_word v_t_newSongs v_t_newPeople v_t_newForgetsAt v_t_newFillsAt v_t_top v_t_firstValue v_t_lastValue v_t_waiting v_t_depth v_t_acts v_t_isWinter v_t_learntNow v_t_forgottenNow v_t_heardMany v_t_its0 v_t_hasImage v_t_imageActs v_t_imageHeard x2 r3 o3_0 hz3) (cwV 1 hts gX12_has_X12_isSong rfl rfl rfl (by decide +kernel) ⟨Nat.le_of_ble_eq_true rfl, Nat.le_of_ble_eq_true rfl⟩) (gs_preV (ci := 12) hk hP hD (is := [0]) rfl rfl rfl rfl) rfl rfl hl.1 rfl (lv_room (Nat.le_of_ble_eq_true rfl)) dX12_has_15 ⟨Nat.zero_le _, Nat.zero_le _⟩) hP hD hS [0] rfl rfl rfl rfl (fun H locs hP hD hS => ?_)
    refine lv_if_eq (tgt := 31) hx hb dX12_has_18 (by decide) (fun c4 => ?_) (fun c4 => ?_)
    · replace h := gs_ift c4 h
      refine lv_iconst (v := 0) hx hb dX12_has_31 (by decide) ?_
      have h := Option.some.inj h
      obtain ⟨w0, h⟩ := Prod.mk.inj h
      subst h
      subst w0
      exact hret _ _ _ _ hP hS dX12_has_32
    · replace h := gs_iff c4 h
      refine lv_aload_n hx hb dX12_has_21 rfl (lv_at hl 0 rfl) ?_
      refine lv_iload_n hx hb dX12_has_22 rfl (lv_at hl 3 rfl) ?_
      refine lv_bipush (v := 6) hx hb dX12_has_23 (by decide) ?_
      obtain ⟨r5, o5_0, hz5, h⟩ := gs_b2_e h
      refine gs_backWi (ws1 := (w_X12_has E a_t a_t_songLong a_t_firstNote a_t_rows a_t_wit a_t_code a_t_tape a_t_refused a_t_newSongLong a_t_newFirstNote a_t_newWit a_t_newRow a_t_readCode a_t_waits a_t_tested a_t_isTold a_t_ahead a_t_told a_t_pile a_t_common a_t_mostOf a_t_likes a_t_heard a_t_soon a_t_soonAll a_t_imageRow a_t_imageAhead a_t_imageHears o5_0 v_t_songs v_t_people v_t_forgetsAt v_t_fillsAt v_t_taped v_t_faultKind v_t_faultPlace v_t_long1 v_t_next0 v_t_sort v_t_place v_t_long0 v_t_value v_t_sign v_t_word v_t_newSongs v_t_newPeople v_t_newForgetsAt v_t_newFillsAt v_t_top v_t_firstValue v_t_lastValue v_t_waiting v_t_depth v_t_acts v_t_isWinter v_t_learntNow v_t_forgottenNow v_t_heardMany v_t_its0 v_t_hasImage v_t_imageActs v_t_imageHeard r_t_songLong r_t_firstNote r_t_rows)) (va_runV (As := [.int x3, .int 6]) (rest := []) ⟨hx, hb, hml, hown, hts⟩ (c_X12_isWhat l E a_t a_t_songLong a_t_firstNote a_t_wit a_t_code a_t_tape a_t_refused a_t_newSongLong a_t_newFirstNote a_t_newWit a_t_newRow a_t_readCode a_t_waits a_t_tested a_t_isTold a_t_rows a_t_ahead a_t_told a_t_pile a_t_common a_t_mostOf a_t_likes a_t_heard a_t_soon a_t_soonAll a_t_imageRow a_t_imageAhead a_t_imageHears o3_0 v_t_songs v_t_people v_t_forgetsAt v_t_fillsAt v_t_taped v_t_faultKind v_t_faultPlace v_t_long1 v_t_next0 v_t_sort v_t_place v_t_long0 v_t_value v_t_sign v_t_word v_t_newSongs v_t_newPeople v_t_newForgetsAt v_t_newFillsAt v_t_top v_t_firstValue v_t_lastValue v_t_waiting v_t_depth v_t_acts v_t_isWinter v_t_learntNow v_t_forgottenNow v_t_heardMany v_t_its0 v_t_hasImage v_t_imageActs v_t_imageHeard x3 6 r5 o5_0 hz5) (cwV 2 hts gX12_has_X12_isWhat rfl rfl rfl (by decide +kernel) ⟨Nat.le_of_ble_eq_true rfl, Nat.le_of_ble_eq_true rfl⟩) (gs_preV (ci := 12) hk hP hD (is := [0]) rfl rfl rfl rfl) rfl rfl hl.1 rfl (lv_room (Nat.le_of_ble_eq_true rfl)) dX12_has_25 ⟨Nat.zero_le _, Nat.zero_le _⟩) hP hD hS [0] rfl rfl rfl rfl (fun H locs hP hD hS => ?_)
      refine lv_if_ne (tgt := 33) hx hb dX12_has_28 (by decide) (fun c6 => ?_) (fun c6 => ?_)
      · replace h := gs_iff c6 h
        refine lv_aload_n hx hb dX12_has_33 rfl (lv_at hl 0 rfl) ?_
        refine lv_iconst (v := 0) hx hb dX12_has_34 (by decide) ?_
        refine lv_iload_n hx hb dX12_has_35 rfl (lv_at hl 1 rfl) ?_
        refine lv_iload_n hx hb dX12_has_36 rfl (lv_at hl 2 rfl) ?_
        obtain ⟨r7, hz7, h⟩ := gs_b1_e h
        refine gs_backRi (va_runV (As := [.int 0, .int x1, .int x2]) (rest := []) ⟨hx, hb, hml, hown, hts⟩ (c_X12_doesHave l E a_t a_t_rows a_t_songLong a_t_firstNote a_t_wit a_t_code a_t_tape a_t_refused a_t_newSongLong a_t_newFirstNote a_t_newWit a_t_newRow a_t_readCode a_t_waits a_t_tested a_t_isTold a_t_ahead a_t_told a_t_pile a_t_common a_t_mostOf a_t_likes a_t_heard a_t_soon a_t_soonAll a_t_imageRow a_t_imageAhead a_t_imageHears o5_0 v_t_songs v_t_people v_t_forgetsAt v_t_fillsAt v_t_taped v_t_faultKind v_t_faultPlace v_t_long1 v_t_next0 v_t_sort v_t_place v_t_long0 v_t_value v_t_sign v_t_word v_t_newSongs v_t_newPeople v_t_newForgetsAt v_t_newFillsAt v_t_top v_t_firstValue v_t_lastValue v_t_waiting v_t_depth v_t_acts v_t_isWinter v_t_learntNow v_t_forgottenNow v_t_heardMany v_t_its0 v_t_hasImage v_t_imageActs v_t_imageHeard r_t_rows 0 x1 x2 r7 hz7) (cwV 3 hts gX12_has_X12_doesHave rfl rfl rfl (by decide +kernel) ⟨Nat.le_of_ble_eq_true rfl, Nat.le_of_ble_eq_true rfl⟩) (gs_preV (ci := 12) hk hP hD (is := [0, 3]) rfl rfl rfl rfl) rfl rfl hl.1 rfl (lv_room (Nat.le_of_ble_eq_true rfl)) dX12_has_37 ⟨Nat.zero_le _, Nat.zero_le _⟩) ?_
        refine lv_istore (lv' := [(4, .int r7), (0, .ref a_t), (1, .int x1), (2, .int x2), (3, .int x3)]) hx hb dX12_has_40 hl (by decide) rfl (fun ls hl => ?_)
        refine lv_iload_n hx hb dX12_has_42 rfl (lv_at hl 4 rfl) ?_
        by_cases c8 : x3 = 0
        · replace h := gs_ift c8 h
          refine lv_tableIn (off := 37) (tgt := 80) hx hb dX12_has_43 (by rw [c8]; decide) (by rw [c8]; decide) (by rw [c8]; decide) (by decide) ?_
          refine lv_iload hx hb dX12_has_80 (lv_at hl 0 rfl) ?_
          refine lv_if_eq (tgt := 89) hx hb dX12_has_82 (by decide) (fun c9 => ?_) (fun c9 => ?_)
          · replace h := gs_ift c9 h
            refine lv_iconst (v := 0) hx hb dX12_has_89 (by decide) ?_
            have h := Option.some.inj h
            obtain ⟨w0, h⟩ := Prod.mk.inj h
            subst h
            subst w0
            exact hret _ _ _ _ hP hS dX12_has_90
          · replace h := gs_iff c9 h
            refine lv_iconst (v := 1) hx hb dX12_has_85 (by decide) ?_
            refine lv_goto (tgt := 90) hx hb dX12_has_86 (by decide) ?_
            have h := Option.some.inj h
            obtain ⟨w0, h⟩ := Prod.mk.inj h
            subst h
            subst w0
            exact hret _ _ _ _ hP hS dX12_has_90
        replace h := gs_iff c8 h
        by_cases c10 : x3 = 1
        · replace h := gs_ift c10 h
          refine lv_tableIn (off := 48) (tgt := 91) hx hb dX12_has_43 (by rw [c10]; decide) (by rw [c10]; decide) (by rw [c10]; decide) (by decide) ?_
          refine lv_iload hx hb dX12_has_91 (lv_at hl 0 rfl) ?_
          refine lv_if_eq (tgt := 106) hx hb dX12_has_93 (by decide) (fun c11 => ?_) (fun c11 => ?_)
          · replace h := gs_ift c11 h
            refine lv_iconst (v := 0) hx hb dX12_has_106 (by decide) ?_
            have h := Option.some.inj h
            obtain ⟨w0, h⟩ := Prod.mk.inj h
            subst h
            subst w0
            exact hret _ _ _ _ hP hS dX12_has_107
          · replace h := gs_iff c11 h
            refine lv_aload_n hx hb dX12_has_96 rfl (lv_at hl 1 rfl) ?_
            refine lv_iconst (v := 0) hx hb dX12_has_97 (by decide) ?_
            refine lv_iload_n hx hb dX12_has_98 rfl (lv_at hl 2 rfl) ?_
            refine lv_iload_n hx hb dX12_has_99 rfl (lv_at hl 3 rfl) ?_
            obtain ⟨r12, hz12, h⟩ := gs_b1_e h
            refine gs_backRi (va_runV (As := [.int 0, .int x1, .int x2]) (rest := []) ⟨hx, hb, hml, hown, hts⟩ (c_X12_gapsIn l E a_t a_t_songLong a_t_rows a_t_firstNote a_t_wit a_t_code a_t_tape a_t_refused a_t_newSongLong a_t_newFirstNote a_t_newWit a_t_newRow a_t_readCode a_t_waits a_t_tested a_t_isTold a_t_ahead a_t_told a_t_pile a_t_common a_t_mostOf a_t_likes a_t_heard a_t_soon a_t_soonAll a_t_imageRow a_t_imageAhead a_t_imageHears o5_0 v_t_songs v_t_people v_t_forgetsAt v_t_fillsAt v_t_taped v_t_faultKind v_t_faultPlace v_t_long1 v_t_next0 v_t_sort v_t_place v_t_long0 v_t_value v_t_sign v_t_word v_t_newSongs v_t_newPeople v_t_newForgetsAt v_t_newFillsAt v_t_top v_t_firstValue v_t_lastValue v_t_waiting v_t_depth v_t_acts v_t_isWinter v_t_learntNow v_t_forgottenNow v_t_heardMany v_t_its0 v_t_hasImage v_t_imageActs v_t_imageHeard r_t_songLong r_t_rows 0 x1 x2 r12 hz12) (cwV 3 hts gX12_has_X12_gapsIn rfl rfl rfl (by decide +kernel) ⟨Nat.le_of_ble_eq_true rfl, Nat.le_of_ble_eq_true rfl⟩) (gs_preV (ci := 12) hk hP hD (is := [0, 1, 3]) rfl rfl rfl rfl) rfl rfl hl.1 rfl (lv_room (Nat.le_of_ble_eq_true rfl)) dX12_has_100 ⟨Nat.zero_le _, Nat.zero_le _⟩) ?_
            refine lv_goto (tgt := 107) hx hb dX12_has_103 (by decide) ?_
            have h := Option.some.inj h
            obtain ⟨w0, h⟩ := Prod.mk.inj h
            subst h
            subst w0
            exact hret _ _ _ _ hP hS dX12_has_107
        replace h := gs_iff c10 h
        by_cases c13 : x3 = 2
        · replace h := gs_ift c13 h
          refine lv_tableIn (off := 65) (tgt := 108) hx hb dX12_has_43 (by rw [c13]; decide) (by rw [c13]; decide) (by rw [c13]; decide) (by decide) ?_
          refine lv_iload hx hb dX12_has_108 (lv_at hl 0 rfl) ?_
          refine lv_if_eq (tgt := 123) hx hb dX12_has_110 (by decide) (fun c14 => ?_) (fun c14 => ?_)
          · replace h := gs_ift c14 h
            refine lv_iconst (v := 0) hx hb dX12_has_123 (by decide) ?_
            have h := Option.some.inj h
            obtain ⟨w0, h⟩ := Prod.mk.inj h
            subst h
            subst w0
            exact hret _ _ _ _ hP hS dX12_has_124
          · replace h := gs_iff c14 h
            refine lv_aload_n hx hb dX12_has_113 rfl (lv_at hl 1 rfl) ?_
            refine lv_iconst (v := 0) hx hb dX12_has_114 (by decide) ?_
            refine lv_iload_n hx hb dX12_has_115 rfl (lv_at hl 2 rfl) ?_
            refine lv_iload_n hx hb dX12_has_116 rfl (lv_at hl 3 rfl) ?_
            obtain ⟨r15, hz15, h⟩ := gs_b1_e h
            refine gs_backRi (va_runV (As := [.int 0, .int x1, .int x2]) (rest := []) ⟨hx, hb, hml, hown, hts⟩ (c_X12_likeIn l E a_t a_t_songLong a_t_firstNote a_t_rows a_t_wit a_t_code a_t_tape a_t_refused a_t_newSongLong a_t_newFirstNote a_t_newWit a_t_newRow a_t_readCode a_t_waits a_t_tested a_t_isTold a_t_ahead a_t_told a_t_pile a_t_common a_t_mostOf a_t_likes a_t_heard a_t_soon a_t_soonAll a_t_imageRow a_t_imageAhead a_t_imageHears o5_0 v_t_songs v_t_people v_t_forgetsAt v_t_fillsAt v_t_taped v_t_faultKind v_t_faultPlace v_t_long1 v_t_next0 v_t_sort v_t_place v_t_long0 v_t_value v_t_sign v_t_word v_t_newSongs v_t_newPeople v_t_newForgetsAt v_t_newFillsAt v_t_top v_t_firstValue v_t_lastValue v_t_waiting v_t_depth v_t_acts v_t_isWinter v_t_learntNow v_t_forgottenNow v_t_heardMany v_t_its0 v_t_hasImage v_t_imageActs v_t_imageHeard r_t_songLong r_t_firstNote r_t_rows 0 x1 x2 r15 hz15) (cwV 3 hts gX12_has_X12_likeIn rfl rfl rfl (by decide +kernel) ⟨Nat.le_of_ble_eq_true rfl, Nat.le_of_ble_eq_true rfl⟩) (gs_preV (ci := 12) hk hP hD (is := [0, 1, 2, 3]) rfl rfl rfl rfl) rfl rfl hl.1 rfl (lv_room (Nat.le_of_ble_eq_true rfl)) dX12_has_117 ⟨Nat.zero_le _, Nat.zero_le _⟩) ?_
            refine lv_goto (tgt := 124) hx hb dX12_has_120 (by decide) ?_
            have h := Option.some.inj h
            obtain ⟨w0, h⟩ := Prod.mk.inj h
            subst h
            subst w0
            exact hret _ _ _ _ hP hS dX12_has_124
        replace h := gs_iff c13 h
        by_cases c16 : x3 = 3
        · replace h := gs_ift c16 h
          refine lv_tableIn (off := 82) (tgt := 125) hx hb dX12_has_43 (by rw [c16]; decide) (by rw [c16]; decide) (by rw [c16]; decide) (by decide) ?_
          refine lv_aload_n hx hb dX12_has_125 rfl (lv_at hl 1 rfl) ?_
          refine va_get (D := E.1) (ci := 12) (v := .ref a_t_rows) (C := RX12) (T := TX12) (N := 61) hx hb hts (fun _ h => (List.mem_cons_of_mem _ (List.mem_append_right _ h))) hown hk.1 hP 0 rfl rfl 39 (by decide) (hts (.fieldLink RX12 63 "GapSongsModel" "rows" "[I") (List.mem_cons_of_mem _ (List.mem_append_left _ (List.mem_append_left _ (List.mem_of_getElem? (i := 1) rfl))))) (fun _ h9 => h9) rfl dX12_has_126 ?_
          refine lv_sipush (v := 316) hx hb dX12_has_129 (by decide) ?_
          refine lv_iconst (v := 5) hx hb dX12_has_132 (by decide) ?_
          refine lv_iload_n hx hb dX12_has_133 rfl (lv_at hl 2 rfl) ?_
          refine lv_imul hx hb dX12_has_134 ?_
          refine lv_iadd hx hb dX12_has_135 ?_
          refine lv_iload_n hx hb dX12_has_136 rfl (lv_at hl 3 rfl) ?_
          refine lv_iadd hx hb dX12_has_137 ?_
          obtain ⟨g17, h⟩ := gs_gd_e h
          refine va_iald hx hb hk.1 hP 3 0 rfl rfl (gs_in_e g17) dX12_has_138 ?_
          have h := Option.some.inj h
          obtain ⟨w0, h⟩ := Prod.mk.inj h
          subst h
          subst w0
          exact hret _ _ _ _ hP hS dX12_has_139
        replace h := gs_iff c16 h
        by_cases c18 : x3 = 4
        · replace h := gs_ift c18 h
          refine lv_tableIn (off := 97) (tgt := 140) hx hb dX12_has_43 (by rw [c18]; decide) (by rw [c18]; decide) (by rw [c18]; decide) (by decide) ?_
          refine lv_aload_n hx hb dX12_has_140 rfl (lv_at hl 1 rfl) ?_
          refine lv_iconst (v := 0) hx hb dX12_has_141 (by decide) ?_
          refine lv_iload_n hx hb dX12_has_142 rfl (lv_at hl 2 rfl) ?_
          refine lv_iload_n hx hb dX12_has_143 rfl (lv_at hl 3 rfl) ?_
          obtain ⟨r19, hz19, h⟩ := gs_b1_e h
          refine gs_backRi (va_runV (As := [.int 0, .int x1, .int x2]) (rest := []) ⟨hx, hb, hml, hown, hts⟩ (c_X12_pupils l E a_t a_t_rows a_t_songLong a_t_firstNote a_t_wit a_t_code a_t_tape a_t_refused a_t_newSongLong a_t_newFirstNote a_t_newWit a_t_newRow a_t_readCode a_t_waits a_t_tested a_t_isTold a_t_ahead a_t_told a_t_pile a_t_common a_t_mostOf a_t_likes a_t_heard a_t_soon a_t_soonAll a_t_imageRow a_t_imageAhead a_t_imageHears o5_0 v_t_songs v_t_people v_t_forgetsAt v_t_fillsAt v_t_taped v_t_faultKind v_t_faultPlace v_t_long1 v_t_next0 v_t_sort v_t_place v_t_long0 v_t_value v_t_sign v_t_word v_t_newSongs v_t_newPeople v_t_newForgetsAt v_t_newFillsAt v_t_top v_t_firstValue v_t_lastValue v_t_waiting v_t_depth v_t_acts v_t_isWinter v_t_learntNow v_t_forgottenNow v_t_heardMany v_t_its0 v_t_hasImage v_t_imageActs v_t_imageHeard r_t_rows 0 x1 x2 r19 hz19) (cwV 3 hts gX12_has_X12_pupils rfl rfl rfl (by decide +kernel) ⟨Nat.le_of_ble_eq_true rfl, Nat.le_of_ble_eq_true rfl⟩) (gs_preV (ci := 12) hk hP hD (is := [0, 3]) rfl rfl rfl rfl) rfl rfl hl.1 rfl (lv_room (Nat.le_of_ble_eq_true rfl)) dX12_has_144 ⟨Nat.zero_le _, Nat.zero_le _⟩) ?_
          have h := Option.some.inj h
          obtain ⟨w0, h⟩ := Prod.mk.inj h
          subst h
          subst w0
          exact hret _ _ _ _ hP hS dX12_has_147
        replace h := gs_iff c18 h
        by_cases c20 : x3 = 5
        · replace h := gs_ift c20 h
          refine lv_tableIn (off := 105) (tgt := 148) hx hb dX12_has_43 (by rw [c20]; decide) (by rw [c20]; decide) (by rw [c20]; decide) (by decide) ?_
          refine lv_aload_n hx hb dX12_has_148 rfl (lv_at hl 1 rfl) ?_
          refine lv_iload_n hx hb dX12_has_149 rfl (lv_at hl 2 rfl) ?_
          refine lv_iload_n hx hb dX12_has_150 rfl (lv_at hl 3 rfl) ?_
          obtain ⟨r21, hz21, h⟩ := gs_b1_e h
          refine gs_backRi (va_runV (As := [.int x1, .int x2]) (rest := []) ⟨hx, hb, hml, hown, hts⟩ (c_X12_generation l E a_t a_t_rows a_t_songLong a_t_firstNote a_t_wit a_t_code a_t_tape a_t_refused a_t_newSongLong a_t_newFirstNote a_t_newWit a_t_newRow a_t_readCode a_t_waits a_t_tested a_t_isTold a_t_ahead a_t_told a_t_pile a_t_common a_t_mostOf a_t_likes a_t_heard a_t_soon a_t_soonAll a_t_imageRow a_t_imageAhead a_t_imageHears o5_0 v_t_songs v_t_people v_t_forgetsAt v_t_fillsAt v_t_taped v_t_faultKind v_t_faultPlace v_t_long1 v_t_next0 v_t_sort v_t_place v_t_long0 v_t_value v_t_sign v_t_word v_t_newSongs v_t_newPeople v_t_newForgetsAt v_t_newFillsAt v_t_top v_t_firstValue v_t_lastValue v_t_waiting v_t_depth v_t_acts v_t_isWinter v_t_learntNow v_t_forgottenNow v_t_heardMany v_t_its0 v_t_hasImage v_t_imageActs v_t_imageHeard r_t_rows x1 x2 r21 hz21) (cwV 2 hts gX12_has_X12_generation rfl rfl rfl (by decide +kernel) ⟨Nat.le_of_ble_eq_true rfl, Nat.le_of_ble_eq_true rfl⟩) (gs_preV (ci := 12) hk hP hD (is := [0, 3]) rfl rfl rfl rfl) rfl rfl hl.1 rfl (lv_room (Nat.le_of_ble_eq_true rfl)) dX12_has_151 ⟨Nat.zero_le _, Nat.zero_le _⟩) ?_
          have h := Option.some.inj h
          obtain ⟨w0, h⟩ := Prod.mk.inj h
          subst h
          subst w0
          exact hret _ _ _ _ hP hS dX12_has_154
        replace h := gs_iff c20 h
        refine lv_tableOut (tgt := 155) hx hb dX12_has_43 (by have e0 := lv_neT c8 (a := 0) (by decide); have e1 := lv_neT c10 (a := 1) (by decide); have e2 := lv_neT c13 (a := 2) (by decide); have e3 := lv_neT c16 (a := 3) (by decide); have e4 := lv_neT c18 (a := 4) (by decide); have e5 := lv_neT c20 (a := 5) (by decide); omega) (by decide) ?_
        refine lv_aload_n hx hb dX12_has_155 rfl (lv_at hl 1 rfl) ?_
        refine lv_iload_n hx hb dX12_has_156 rfl (lv_at hl 2 rfl) ?_
        refine lv_iload_n hx hb dX12_has_157 rfl (lv_at hl 3 rfl) ?_
        obtain ⟨r22, hz22, h⟩ := gs_b1_e h
        refine gs_backRi (va_runV (As := [.int x1, .int x2]) (rest := []) ⟨hx, hb, hml, hown, hts⟩ (c_X12_taughtBy l E a_t a_t_rows a_t_songLong a_t_firstNote a_t_wit a_t_code a_t_tape a_t_refused a_t_newSongLong a_t_newFirstNote a_t_newWit a_t_newRow a_t_readCode a_t_waits a_t_tested a_t_isTold a_t_ahead a_t_told a_t_pile a_t_common a_t_mostOf a_t_likes a_t_heard a_t_soon a_t_soonAll a_t_imageRow a_t_imageAhead a_t_imageHears o5_0 v_t_songs v_t_people v_t_forgetsAt v_t_fillsAt v_t_taped v_t_faultKind v_t_faultPlace v_t_long1 v_t_next0 v_t_sort v_t_place v_t_long0 v_t_value v_t_sign v_t_word v_t_newSongs v_t_newPeople v_t_newForgetsAt v_t_newFillsAt v_t_top v_t_firstValue v_t_lastValue v_t_waiting v_t_depth v_t_acts v_t_isWinter v_t_learntNow v_t_forgottenNow v_t_heardMany v_t_its0 v_t_hasImage v_t_imageActs v_t_imageHeard r_t_rows x1 x2 r22 hz22) (cwV 2 hts gX12_has_X12_taughtBy rfl rfl rfl (by decide +kernel) ⟨Nat.le_of_ble_eq_true rfl, Nat.le_of_ble_eq_true rfl⟩) (gs_preV (ci := 12) hk hP hD (is := [0, 3]) rfl rfl rfl rfl) rfl rfl hl.1 rfl (lv_room (Nat.le_of_ble_eq_true rfl)) dX12_has_158 ⟨Nat.zero_le _, Nat.zero_le _⟩) ?_
        have h := Option.some.inj h
        obtain ⟨w0, h⟩ := Prod.mk.inj h
        subst h
        subst w0
        exact hret _ _ _ _ hP hS dX12_has_161
      · replace h := gs_ift c6 h
        refine lv_iconst (v := 0) hx hb dX12_has_31 (by decide) ?_
        have h := Option.some.inj h
        obtain ⟨w0, h⟩ := Prod.mk.inj h
        subst h
        subst w0
        exact hret _ _ _ _ hP hS dX12_has_32

set_option maxRecDepth 100000 in
theorem ggX12_days_X12_within : GoodIn wsX12_days wsX12_within := goodIn_r _ [6] rfl (by decide +kernel)
set_option maxRecDepth 100000 in
theorem gX12_days_X12_within : GoodIn wsX12_days (va_wsS RX12 356 yX12_within wsX12_within) := goodIn_app (goodIn_of _ (by decide +kernel)) ggX12_days_X12_within
set_option maxRecDepth 100000 in
theorem ggX12_days_X12_refuses : GoodIn wsX12_days wsX12_refuses := goodIn_r _ [10, 11, 86, 87, 88, 89, 90, 91, 92, 93, 94, 95, 96, 97, 98, 99, 100, 101, 102, 103, 104, 105, 106, 107, 108, 109, 110, 111, 112, 113, 114, 115, 116, 117, 118, 119, 120, 121, 122, 123, 124, 125, 126, 127, 128, 129, 130, 131, 132, 133, 134, 135, 136, 137, 138, 139, 140, 141, 142, 143, 144, 145, 146] rfl (by decide +kernel)
set_option maxRecDepth 100000 in
theorem gX12_days_X12_refuses : GoodIn wsX12_days (wsV RX12 408 RX12 yX12_refuses wsX12_refuses) := goodIn_app (goodIn_of _ (by decide +kernel)) ggX12_days_X12_refuses
set_option maxRecDepth 100000 in
theorem ggX12_days_X12_keeps : GoodIn wsX12_days wsX12_keeps := goodIn_r _ [15, 16, 17, 2, 86, 87, 88, 89, 90, 91, 92, 93, 94, 95, 96, 97, 98, 99, 100, 101, 102, 103, 104, 105, 106, 107, 108, 109, 110, 111, 112, 113, 114, 115, 116, 117, 118, 119, 120, 121, 122, 123, 124, 125, 126, 127, 128, 129, 130, 131, 132, 133, 134, 135, 136, 137, 138, 139, 140, 141, 142, 143, 144, 145, 146] rfl (by decide +kernel)
set_option maxRecDepth 100000 in
theorem gX12_days_X12_keeps : GoodIn wsX12_days (wsV RX12 411 RX12 yX12_keeps wsX12_keeps) := goodIn_app (goodIn_of _ (by decide +kernel)) ggX12_days_X12_keeps
set_option maxRecDepth 100000 in
theorem ggX12_days_X12_dayGoes : GoodIn wsX12_days wsX12_dayGoes := goodIn_r _ [21, 22, 23, 24, 25, 26, 2, 27, 28, 29, 5, 30, 31, 32, 33, 34, 35, 36, 37, 38, 39, 40, 41, 42, 43, 44, 45, 46, 47, 48, 49, 50, 51, 52, 53, 54, 55, 56, 57, 58, 59, 60, 61, 62, 63, 64, 65, 66, 67, 68, 69, 70, 71, 72, 73, 74, 75, 76, 77, 78, 79, 80, 81, 82, 83, 84, 85, 86, 87, 88, 89, 90, 91, 92, 93, 94, 95, 96, 97, 98, 99, 100, 101, 102, 103, 104, 105, 106, 107, 108, 109, 110, 111, 112, 113, 114, 115, 116, 117, 118, 119, 120, 121, 122, 123, 124, 125, 126, 127, 128, 129, 130, 131, 132, 133, 134, 135, 136, 137, 138, 139, 140, 141, 142, 143, 144, 145, 146] rfl (by decide +kernel)
set_option maxRecDepth 100000 in
theorem gX12_days_X12_dayGoes : GoodIn wsX12_days (wsV RX12 350 RX12 yX12_dayGoes wsX12_dayGoes) := goodIn_app (goodIn_of _ (by decide +kernel)) ggX12_days_X12_dayGoes
theorem dX12_days_0 : decode cX12_days 0 = .ok (.aload_n 0, 1) := by decide +kernel
theorem dX12_days_1 : decode cX12_days 1 = .ok (.iconst 0, 1) := by decide +kernel
theorem dX12_days_2 : decode cX12_days 2 = .ok (.putfield 102, 3) := by decide +kernel
theorem dX12_days_5 : decode cX12_days 5 = .ok (.iload_n 1, 1) := by decide +kernel
theorem dX12_days_6 : decode cX12_days 6 = .ok (.iconst 1, 1) := by decide +kernel
theorem dX12_days_7 : decode cX12_days 7 = .ok (.bipush 20, 2) := by decide +kernel
theorem dX12_days_9 : decode cX12_days 9 = .ok (.invokestatic 356, 3) := by decide +kernel
theorem dX12_days_12 : decode cX12_days 12 = .ok (.ifCond .eq 17, 3) := by decide +kernel
theorem dX12_days_15 : decode cX12_days 15 = .ok (.aload_n 0, 1) := by decide +kernel
theorem dX12_days_16 : decode cX12_days 16 = .ok (.getfield 63, 3) := by decide +kernel
theorem dX12_days_19 : decode cX12_days 19 = .ok (.iconst 0, 1) := by decide +kernel
theorem dX12_days_20 : decode cX12_days 20 = .ok (.iaload, 1) := by decide +kernel
theorem dX12_days_21 : decode cX12_days 21 = .ok (.iload_n 1, 1) := by decide +kernel
theorem dX12_days_22 : decode cX12_days 22 = .ok (.iadd, 1) := by decide +kernel
theorem dX12_days_23 : decode cX12_days 23 = .ok (.sipush 9999, 3) := by decide +kernel
theorem dX12_days_26 : decode cX12_days 26 = .ok (.if_icmp .le 9, 3) := by decide +kernel
theorem dX12_days_29 : decode cX12_days 29 = .ok (.aload_n 0, 1) := by decide +kernel
theorem dX12_days_30 : decode cX12_days 30 = .ok (.iconst 1, 1) := by decide +kernel
theorem dX12_days_31 : decode cX12_days 31 = .ok (.invokevirtual 408, 3) := by decide +kernel
theorem dX12_days_34 : decode cX12_days 34 = .ok (.ireturn, 1) := by decide +kernel
theorem dX12_days_35 : decode cX12_days 35 = .ok (.aload_n 0, 1) := by decide +kernel
theorem dX12_days_36 : decode cX12_days 36 = .ok (.invokevirtual 411, 3) := by decide +kernel
theorem dX12_days_39 : decode cX12_days 39 = .ok (.iconst 0, 1) := by decide +kernel
theorem dX12_days_40 : decode cX12_days 40 = .ok (.istore_n 2, 1) := by decide +kernel
theorem dX12_days_41 : decode cX12_days 41 = .ok (.iload_n 2, 1) := by decide +kernel
theorem dX12_days_42 : decode cX12_days 42 = .ok (.iload_n 1, 1) := by decide +kernel
theorem dX12_days_43 : decode cX12_days 43 = .ok (.if_icmp .ge 14, 3) := by decide +kernel
theorem dX12_days_46 : decode cX12_days 46 = .ok (.aload_n 0, 1) := by decide +kernel
theorem dX12_days_47 : decode cX12_days 47 = .ok (.iconst 0, 1) := by decide +kernel
theorem dX12_days_48 : decode cX12_days 48 = .ok (.invokevirtual 350, 3) := by decide +kernel
theorem dX12_days_51 : decode cX12_days 51 = .ok (.iinc 2 1, 3) := by decide +kernel
theorem dX12_days_54 : decode cX12_days 54 = .ok (.goto (-13), 3) := by decide +kernel
theorem dX12_days_57 : decode cX12_days 57 = .ok (.aload_n 0, 1) := by decide +kernel
theorem dX12_days_58 : decode cX12_days 58 = .ok (.getfield 63, 3) := by decide +kernel
theorem dX12_days_61 : decode cX12_days 61 = .ok (.iconst 0, 1) := by decide +kernel
theorem dX12_days_62 : decode cX12_days 62 = .ok (.iaload, 1) := by decide +kernel
theorem dX12_days_63 : decode cX12_days 63 = .ok (.ireturn, 1) := by decide +kernel
abbrev w_X12_days (E : gs_E) (a_t a_t_songLong a_t_wit a_t_code a_t_refused a_t_rows a_t_ahead a_t_told a_t_pile a_t_firstNote a_t_tape a_t_newSongLong a_t_newFirstNote a_t_newWit a_t_newRow a_t_readCode a_t_waits a_t_tested a_t_isTold a_t_common a_t_mostOf a_t_likes a_t_heard a_t_soon a_t_soonAll a_t_imageRow a_t_imageAhead a_t_imageHears : Nat) (v_t_thrown : Int32) (v_t_songs : Int32) (v_t_people : Int32) (v_t_forgetsAt : Int32) (v_t_fillsAt : Int32) (v_t_taped : Int32) (v_t_faultKind : Int32) (v_t_faultPlace : Int32) (v_t_long1 : Int32) (v_t_next0 : Int32) (v_t_sort : Int32) (v_t_place : Int32) (v_t_long0 : Int32) (v_t_value : Int32) (v_t_sign : Int32) (v_t_word : Int64) (v_t_newSongs : Int32) (v_t_newPeople : Int32) (v_t_newForgetsAt : Int32) (v_t_newFillsAt : Int32) (v_t_top : Int32) (v_t_firstValue : Int32) (v_t_lastValue : Int32) (v_t_waiting : Int32) (v_t_depth : Int32) (v_t_acts : Int32) (v_t_isWinter : Int32) (v_t_learntNow : Int32) (v_t_forgottenNow : Int32) (v_t_heardMany : Int32) (v_t_its0 : Int32) (v_t_hasImage : Int32) (v_t_imageActs : Int32) (v_t_imageHeard : Int32) (r_t_songLong : Nat → Int32) (r_t_wit : Nat → Int32) (r_t_code : Nat → Int32) (r_t_refused : Nat → Int32) (r_t_rows : Nat → Int32) (r_t_ahead : Nat → Int32) (r_t_told : Nat → Int32) (r_t_pile : Nat → Int32) : va_W := [(a_t, .inr (12, [.int v_t_thrown, .int v_t_songs, .int v_t_people, .int v_t_forgetsAt, .int v_t_fillsAt, .ref a_t_songLong, .ref a_t_firstNote, .ref a_t_wit, .ref a_t_code, .ref a_t_tape, .int v_t_taped, .int v_t_faultKind, .int v_t_faultPlace, .ref a_t_refused, .int v_t_long1, .int v_t_next0, .int v_t_sort, .int v_t_place, .int v_t_long0, .int v_t_value, .int v_t_sign, .long v_t_word, .int v_t_newSongs, .int v_t_newPeople, .int v_t_newForgetsAt, .int v_t_newFillsAt, .int v_t_top, .int v_t_firstValue, .int v_t_lastValue, .int v_t_waiting, .int v_t_depth, .ref a_t_newSongLong, .ref a_t_newFirstNote, .ref a_t_newWit, .ref a_t_newRow, .ref a_t_readCode, .ref a_t_waits, .ref a_t_tested, .ref a_t_isTold, .ref a_t_rows, .ref a_t_ahead, .int v_t_acts, .ref a_t_told, .ref a_t_pile, .int v_t_isWinter, .int v_t_learntNow, .int v_t_forgottenNow, .ref a_t_common, .ref a_t_mostOf, .ref a_t_likes, .int v_t_heardMany, .ref a_t_heard, .ref a_t_soon, .ref a_t_soonAll, .int v_t_its0, .int v_t_hasImage, .int v_t_imageActs, .int v_t_imageHeard, .ref a_t_imageRow, .ref a_t_imageAhead, .ref a_t_imageHears])), (a_t_songLong, .inl (E.2.1, 5, .inl r_t_songLong)), (a_t_wit, .inl (E.2.1, 7, .inl r_t_wit)), (a_t_code, .inl (E.2.1, 1400, .inl r_t_code)), (a_t_refused, .inl (E.2.1, 3, .inl r_t_refused)), (a_t_rows, .inl (E.2.1, 744, .inl r_t_rows)), (a_t_ahead, .inl (E.2.1, 14880, .inl r_t_ahead)), (a_t_told, .inl (E.2.1, 9, .inl r_t_told)), (a_t_pile, .inl (E.2.1, 950, .inl r_t_pile))]
abbrev rm_X12_days : Room := { frames := 5, cells := 0, slots := 0, locals := 122 }
def S_X12_days_29 (p : Program) (l : Launch) (e : Env) (s : State) (m : MethodId) (args : Array Value) (below : List Frame) (meth : Method) (c : Code) (Q : State → Prop) (a_t a_t_songLong a_t_wit a_t_code a_t_refused a_t_rows a_t_ahead a_t_told a_t_pile a_t_firstNote a_t_tape a_t_newSongLong a_t_newFirstNote a_t_newWit a_t_newRow a_t_readCode a_t_waits a_t_tested a_t_isTold a_t_common a_t_mostOf a_t_likes a_t_heard a_t_soon a_t_soonAll a_t_imageRow a_t_imageAhead a_t_imageHears : Nat) (E : gs_E) (A : Nat → Prop) (v_t_thrown : Int32) (v_t_songs : Int32) (v_t_people : Int32) (v_t_forgetsAt : Int32) (v_t_fillsAt : Int32) (v_t_taped : Int32) (v_t_faultKind : Int32) (v_t_faultPlace : Int32) (v_t_long1 : Int32) (v_t_next0 : Int32) (v_t_sort : Int32) (v_t_place : Int32) (v_t_long0 : Int32) (v_t_value : Int32) (v_t_sign : Int32) (v_t_word : Int64) (v_t_newSongs : Int32) (v_t_newPeople : Int32) (v_t_newForgetsAt : Int32) (v_t_newFillsAt : Int32) (v_t_top : Int32) (v_t_firstValue : Int32) (v_t_lastValue : Int32) (v_t_waiting : Int32) (v_t_depth : Int32) (v_t_acts : Int32) (v_t_isWinter : Int32) (v_t_learntNow : Int32) (v_t_forgottenNow : Int32) (v_t_heardMany : Int32) (v_t_its0 : Int32) (v_t_hasImage : Int32) (v_t_imageActs : Int32) (v_t_imageHeard : Int32) (r_t_songLong : Nat → Int32) (r_t_wit : Nat → Int32) (r_t_code : Nat → Int32) (r_t_refused : Nat → Int32) (r_t_rows : Nat → Int32) (r_t_ahead : Nat → Int32) (r_t_told : Nat → Int32) (r_t_pile : Nat → Int32) : Prop := ∀ (H : Heap) (locs : List Loc) (ls : Array Slot), va_P E.1 vwCl (w_X12_days E a_t a_t_songLong a_t_wit a_t_code a_t_refused a_t_rows a_t_ahead a_t_told a_t_pile a_t_firstNote a_t_tape a_t_newSongLong a_t_newFirstNote a_t_newWit a_t_newRow a_t_readCode a_t_waits a_t_tested a_t_isTold a_t_common a_t_mostOf a_t_likes a_t_heard a_t_soon a_t_soonAll a_t_imageRow a_t_imageAhead a_t_imageHears v_t_thrown v_t_songs v_t_people v_t_forgetsAt v_t_fillsAt v_t_taped v_t_faultKind v_t_faultPlace v_t_long1 v_t_next0 v_t_sort v_t_place v_t_long0 v_t_value v_t_sign v_t_word v_t_newSongs v_t_newPeople v_t_newForgetsAt v_t_newFillsAt v_t_top v_t_firstValue v_t_lastValue v_t_waiting v_t_depth v_t_acts v_t_isWinter v_t_learntNow v_t_forgottenNow v_t_heardMany v_t_its0 v_t_hasImage v_t_imageActs v_t_imageHeard r_t_songLong r_t_wit r_t_code r_t_refused r_t_rows r_t_ahead r_t_told r_t_pile) H → va_D A (w_X12_days E a_t a_t_songLong a_t_wit a_t_code a_t_refused a_t_rows a_t_ahead a_t_told a_t_pile a_t_firstNote a_t_tape a_t_newSongLong a_t_newFirstNote a_t_newWit a_t_newRow a_t_readCode a_t_waits a_t_tested a_t_isTold a_t_common a_t_mostOf a_t_likes a_t_heard a_t_soon a_t_soonAll a_t_imageRow a_t_imageAhead a_t_imageHears v_t_thrown v_t_songs v_t_people v_t_forgetsAt v_t_fillsAt v_t_taped v_t_faultKind v_t_faultPlace v_t_long1 v_t_next0 v_t_sort v_t_place v_t_long0 v_t_value v_t_sign v_t_word v_t_newSongs v_t_newPeople v_t_newForgetsAt v_t_newFillsAt v_t_top v_t_firstValue v_t_lastValue v_t_waiting v_t_depth v_t_acts v_t_isWinter v_t_learntNow v_t_forgottenNow v_t_heardMany v_t_its0 v_t_hasImage v_t_imageActs v_t_imageHeard r_t_songLong r_t_wit r_t_code r_t_refused r_t_rows r_t_ahead r_t_told r_t_pile) → va_S A s.heap H locs → lv_has ls 3 [(0, .ref a_t)] → W p l e rm_X12_days s m args below meth c H locs 0 0 Q (F0 m 29 ls [])
def S_X12_days_41 (p : Program) (l : Launch) (e : Env) (s : State) (m : MethodId) (args : Array Value) (below : List Frame) (meth : Method) (c : Code) (Q : State → Prop) (a_t a_t_songLong a_t_wit a_t_code a_t_refused a_t_rows a_t_ahead a_t_told a_t_pile a_t_firstNote a_t_tape a_t_newSongLong a_t_newFirstNote a_t_newWit a_t_newRow a_t_readCode a_t_waits a_t_tested a_t_isTold a_t_common a_t_mostOf a_t_likes a_t_heard a_t_soon a_t_soonAll a_t_imageRow a_t_imageAhead a_t_imageHears : Nat) (E : gs_E) (A : Nat → Prop) (v_t_thrown : Int32) (v_t_songs : Int32) (v_t_people : Int32) (v_t_forgetsAt : Int32) (v_t_fillsAt : Int32) (v_t_taped : Int32) (v_t_faultKind : Int32) (v_t_faultPlace : Int32) (v_t_long1 : Int32) (v_t_next0 : Int32) (v_t_sort : Int32) (v_t_place : Int32) (v_t_long0 : Int32) (v_t_value : Int32) (v_t_sign : Int32) (v_t_word : Int64) (v_t_newSongs : Int32) (v_t_newPeople : Int32) (v_t_newForgetsAt : Int32) (v_t_newFillsAt : Int32) (v_t_top : Int32) (v_t_firstValue : Int32) (v_t_lastValue : Int32) (v_t_waiting : Int32) (v_t_depth : Int32) (v_t_acts : Int32) (v_t_isWinter : Int32) (v_t_learntNow : Int32) (v_t_forgottenNow : Int32) (v_t_heardMany : Int32) (v_t_its0 : Int32) (v_t_hasImage : Int32) (v_t_imageActs : Int32) (v_t_imageHeard : Int32) (r_t_songLong : Nat → Int32) (r_t_wit : Nat → Int32) (r_t_code : Nat → Int32) (r_t_refused : Nat → Int32) (r_t_rows : Nat → Int32) (r_t_ahead : Nat → Int32) (r_t_told : Nat → Int32) (r_t_pile : Nat → Int32) (x1 : Int32) (x2 : Int32) : Prop := ∀ (H : Heap) (locs : List Loc) (ls : Array Slot), va_P E.1 vwCl (w_X12_days E a_t a_t_songLong a_t_wit a_t_code a_t_refused a_t_rows a_t_ahead a_t_told a_t_pile a_t_firstNote a_t_tape a_t_newSongLong a_t_newFirstNote a_t_newWit a_t_newRow a_t_readCode a_t_waits a_t_tested a_t_isTold a_t_common a_t_mostOf a_t_likes a_t_heard a_t_soon a_t_soonAll a_t_imageRow a_t_imageAhead a_t_imageHears v_t_thrown v_t_songs v_t_people v_t_forgetsAt v_t_fillsAt v_t_taped v_t_faultKind v_t_faultPlace v_t_long1 v_t_next0 v_t_sort v_t_place v_t_long0 v_t_value v_t_sign v_t_word v_t_newSongs v_t_newPeople v_t_newForgetsAt v_t_newFillsAt v_t_top v_t_firstValue v_t_lastValue v_t_waiting v_t_depth v_t_acts v_t_isWinter v_t_learntNow v_t_forgottenNow v_t_heardMany v_t_its0 v_t_hasImage v_t_imageActs v_t_imageHeard r_t_songLong r_t_wit r_t_code r_t_refused r_t_rows r_t_ahead r_t_told r_t_pile) H → va_D A (w_X12_days E a_t a_t_songLong a_t_wit a_t_code a_t_refused a_t_rows a_t_ahead a_t_told a_t_pile a_t_firstNote a_t_tape a_t_newSongLong a_t_newFirstNote a_t_newWit a_t_newRow a_t_readCode a_t_waits a_t_tested a_t_isTold a_t_common a_t_mostOf a_t_likes a_t_heard a_t_soon a_t_soonAll a_t_imageRow a_t_imageAhead a_t_imageHears v_t_thrown v_t_songs v_t_people v_t_forgetsAt v_t_fillsAt v_t_taped v_t_faultKind v_t_faultPlace v_t_long1 v_t_next0 v_t_sort v_t_place v_t_long0 v_t_value v_t_sign v_t_word v_t_newSongs v_t_newPeople v_t_newForgetsAt v_t_newFillsAt v_t_top v_t_firstValue v_t_lastValue v_t_waiting v_t_depth v_t_acts v_t_isWinter v_t_learntNow v_t_forgottenNow v_t_heardMany v_t_its0 v_t_hasImage v_t_imageActs v_t_imageHeard r_t_songLong r_t_wit r_t_code r_t_refused r_t_rows r_t_ahead r_t_told r_t_pile) → va_S A s.heap H locs → lv_has ls 3 [(0, .ref a_t), (1, .int x1), (2, .int x2)] → W p l e rm_X12_days s m args below meth c H locs 0 0 Q (F0 m 41 ls [])
def f_X12_days_29 (v_t_thrown : Int32) (v_t_acts : Int32) (v_t_learntNow : Int32) (v_t_forgottenNow : Int32) (r_t_refused : Nat → Int32) (r_t_rows : Nat → Int32) (r_t_ahead : Nat → Int32) (r_t_told : Nat → Int32) (r_t_pile : Nat → Int32) : Option (Int32 × Int32 × Int32 × Int32 × Int32 × (Nat → Int32) × (Nat → Int32) × (Nat → Int32) × (Nat → Int32) × (Nat → Int32)) :=
  gs_b2 (f_X12_refuses 1 r_t_refused) fun r3 o3_0 =>
  some (r3, v_t_thrown, v_t_acts, v_t_learntNow, v_t_forgottenNow, o3_0, r_t_rows, r_t_ahead, r_t_told, r_t_pile)
set_option maxHeartbeats 4000000 in
set_option maxRecDepth 100000 in
theorem t_X12_days_29 {p : Program} {l : Launch} {e : Env} {s : State} {m : MethodId} {args : Array Value} {below : List Frame} {meth : Method} {c : Code} {Q : State → Prop} {E : gs_E} {A : Nat → Prop} {a_t a_t_songLong a_t_wit a_t_code a_t_refused a_t_rows a_t_ahead a_t_told a_t_pile a_t_firstNote a_t_tape a_t_newSongLong a_t_newFirstNote a_t_newWit a_t_newRow a_t_readCode a_t_waits a_t_tested a_t_isTold a_t_common a_t_mostOf a_t_likes a_t_heard a_t_soon a_t_soonAll a_t_imageRow a_t_imageAhead a_t_imageHears : Nat} {rr : Int32} {o_t_thrown : Int32} {o_t_acts : Int32} {o_t_learntNow : Int32} {o_t_forgottenNow : Int32} {o_t_refused : Nat → Int32} {o_t_rows : Nat → Int32} {o_t_ahead : Nat → Int32} {o_t_told : Nat → Int32} {o_t_pile : Nat → Int32} (X0 : gs_X wsX12_days cX12_days RX12 3 (some .int) p s m args meth c) (hk : gs_K E s) {v_t_thrown : Int32} {v_t_songs : Int32} {v_t_people : Int32} {v_t_forgetsAt : Int32} {v_t_fillsAt : Int32} {v_t_taped : Int32} {v_t_faultKind : Int32} {v_t_faultPlace : Int32} {v_t_long1 : Int32} {v_t_next0 : Int32} {v_t_sort : Int32} {v_t_place : Int32} {v_t_long0 : Int32} {v_t_value : Int32} {v_t_sign : Int32} {v_t_word : Int64} {v_t_newSongs : Int32} {v_t_newPeople : Int32} {v_t_newForgetsAt : Int32} {v_t_newFillsAt : Int32} {v_t_top : Int32} {v_t_firstValue : Int32} {v_t_lastValue : Int32} {v_t_waiting : Int32} {v_t_depth : Int32} {v_t_acts : Int32} {v_t_isWinter : Int32} {v_t_learntNow : Int32} {v_t_forgottenNow : Int32} {v_t_heardMany : Int32} {v_t_its0 : Int32} {v_t_hasImage : Int32} {v_t_imageActs : Int32} {v_t_imageHeard : Int32} {r_t_songLong : Nat → Int32} {r_t_wit : Nat → Int32} {r_t_code : Nat → Int32} {r_t_refused : Nat → Int32} {r_t_rows : Nat → Int32} {r_t_ahead : Nat → Int32} {r_t_told : Nat → Int32} {r_t_pile : Nat → Int32} (hret : ∀ (H : Heap) (locs : List Loc) (pc : Nat) (ls : Array Slot), va_P E.1 vwCl (w_X12_days E a_t a_t_songLong a_t_wit a_t_code a_t_refused a_t_rows a_t_ahead a_t_told a_t_pile a_t_firstNote a_t_tape a_t_newSongLong a_t_newFirstNote a_t_newWit a_t_newRow a_t_readCode a_t_waits a_t_tested a_t_isTold a_t_common a_t_mostOf a_t_likes a_t_heard a_t_soon a_t_soonAll a_t_imageRow a_t_imageAhead a_t_imageHears o_t_thrown v_t_songs v_t_people v_t_forgetsAt v_t_fillsAt v_t_taped v_t_faultKind v_t_faultPlace v_t_long1 v_t_next0 v_t_sort v_t_place v_t_long0 v_t_value v_t_sign v_t_word v_t_newSongs v_t_newPeople v_t_newForgetsAt v_t_newFillsAt v_t_top v_t_firstValue v_t_lastValue v_t_waiting v_t_depth o_t_acts v_t_isWinter o_t_learntNow o_t_forgottenNow v_t_heardMany v_t_its0 v_t_hasImage v_t_imageActs v_t_imageHeard r_t_songLong r_t_wit r_t_code o_t_refused o_t_rows o_t_ahead o_t_told o_t_pile) H → va_S A s.heap H locs → decode cX12_days pc = .ok (.ireturn, 1) → W p l e rm_X12_days s m args below meth c H locs 0 0 Q (F0 m pc ls [.int rr])) (h : f_X12_days_29 v_t_thrown v_t_acts v_t_learntNow v_t_forgottenNow r_t_refused r_t_rows r_t_ahead r_t_told r_t_pile = some (rr, o_t_thrown, o_t_acts, o_t_learntNow, o_t_forgottenNow, o_t_refused, o_t_rows, o_t_ahead, o_t_told, o_t_pile)) : S_X12_days_29 p l e s m args below meth c Q a_t a_t_songLong a_t_wit a_t_code a_t_refused a_t_rows a_t_ahead a_t_told a_t_pile a_t_firstNote a_t_tape a_t_newSongLong a_t_newFirstNote a_t_newWit a_t_newRow a_t_readCode a_t_waits a_t_tested a_t_isTold a_t_common a_t_mostOf a_t_likes a_t_heard a_t_soon a_t_soonAll a_t_imageRow a_t_imageAhead a_t_imageHears E A v_t_thrown v_t_songs v_t_people v_t_forgetsAt v_t_fillsAt v_t_taped v_t_faultKind v_t_faultPlace v_t_long1 v_t_next0 v_t_sort v_t_place v_t_long0 v_t_value v_t_sign v_t_word v_t_newSongs v_t_newPeople v_t_newForgetsAt v_t_newFillsAt v_t_top v_t_firstValue v_t_lastValue v_t_waiting v_t_depth v_t_acts v_t_isWinter v_t_learntNow v_t_forgottenNow v_t_heardMany v_t_its0 v_t_hasImage v_t_imageActs v_t_imageHeard r_t_songLong r_t_wit r_t_code r_t_refused r_t_rows r_t_ahead r_t_told r_t_pile := by
  obtain ⟨hx, hb, hml, hown, hts, hr, hlk⟩ := id X0
  intro H locs ls hP hD hS hl
  unfold f_X12_days_29 at h
  refine lv_aload_n hx hb dX12_days_29 rfl (lv_at hl 0 rfl) ?_
  refine lv_iconst (v := 1) hx hb dX12_days_30 (by decide) ?_
  obtain ⟨r3, o3_0, hz3, h⟩ := gs_b2_e h
  refine gs_backWi (ws1 := (w_X12_days E a_t a_t_songLong a_t_wit a_t_code a_t_refused a_t_rows a_t_ahead a_t_told a_t_pile a_t_firstNote a_t_tape a_t_newSongLong a_t_newFirstNote a_t_newWit a_t_newRow a_t_readCode a_t_waits a_t_tested a_t_isTold a_t_common a_t_mostOf a_t_likes a_t_heard a_t_soon a_t_soonAll a_t_imageRow a_t_imageAhead a_t_imageHears v_t_thrown v_t_songs v_t_people v_t_forgetsAt v_t_fillsAt v_t_taped v_t_faultKind v_t_faultPlace v_t_long1 v_t_next0 v_t_sort v_t_place v_t_long0 v_t_value v_t_sign v_t_word v_t_newSongs v_t_newPeople v_t_newForgetsAt v_t_newFillsAt v_t_top v_t_firstValue v_t_lastValue v_t_waiting v_t_depth v_t_acts v_t_isWinter v_t_learntNow v_t_forgottenNow v_t_heardMany v_t_its0 v_t_hasImage v_t_imageActs v_t_imageHeard r_t_songLong r_t_wit r_t_code o3_0 r_t_rows r_t_ahead r_t_told r_t_pile)) (va_runV (As := [.int 1]) (rest := []) ⟨hx, hb, hml, hown, hts⟩ (c_X12_refuses l E a_t a_t_refused a_t_songLong a_t_firstNote a_t_wit a_t_code a_t_tape a_t_newSongLong a_t_newFirstNote a_t_newWit a_t_newRow a_t_readCode a_t_waits a_t_tested a_t_isTold a_t_rows a_t_ahead a_t_told a_t_pile a_t_common a_t_mostOf a_t_likes a_t_heard a_t_soon a_t_soonAll a_t_imageRow a_t_imageAhead a_t_imageHears v_t_thrown v_t_songs v_t_people v_t_forgetsAt v_t_fillsAt v_t_taped v_t_faultKind v_t_faultPlace v_t_long1 v_t_next0 v_t_sort v_t_place v_t_long0 v_t_value v_t_sign v_t_word v_t_newSongs v_t_newPeople v_t_newForgetsAt v_t_newFillsAt v_t_top v_t_firstValue v_t_lastValue v_t_waiting v_t_depth v_t_acts v_t_isWinter v_t_learntNow v_t_forgottenNow v_t_heardMany v_t_its0 v_t_hasImage v_t_imageActs v_t_imageHeard r_t_refused 1 r3 o3_0 hz3) (cwV 1 hts gX12_days_X12_refuses rfl rfl rfl (by decide +kernel) ⟨Nat.le_of_ble_eq_true rfl, Nat.le_of_ble_eq_true rfl⟩) (gs_preV (ci := 12) hk hP hD (is := [0, 4]) rfl rfl rfl rfl) rfl rfl hl.1 rfl (lv_room (Nat.le_of_ble_eq_true rfl)) dX12_days_31 ⟨Nat.zero_le _, Nat.zero_le _⟩) hP hD hS [0, 4] rfl rfl rfl rfl (fun H locs hP hD hS => ?_)
  have h := Option.some.inj h
  obtain ⟨w0, h⟩ := Prod.mk.inj h
  obtain ⟨w1, h⟩ := Prod.mk.inj h
  obtain ⟨w2, h⟩ := Prod.mk.inj h
  obtain ⟨w3, h⟩ := Prod.mk.inj h
  obtain ⟨w4, h⟩ := Prod.mk.inj h
  obtain ⟨w5, h⟩ := Prod.mk.inj h
  obtain ⟨w6, h⟩ := Prod.mk.inj h
  obtain ⟨w7, h⟩ := Prod.mk.inj h
  obtain ⟨w8, h⟩ := Prod.mk.inj h
  subst h
  subst w0
  subst w1
  subst w2
  subst w3
  subst w4
  subst w5
  subst w6
  subst w7
  subst w8
  exact hret _ _ _ _ hP hS dX12_days_34
def f_X12_days_41 (x1 : Int32) (v_t_thrown : Int32) (v_t_songs : Int32) (v_t_people : Int32) (v_t_forgetsAt : Int32) (v_t_fillsAt : Int32) (v_t_acts : Int32) (v_t_isWinter : Int32) (r_t_songLong : Nat → Int32) (r_t_wit : Nat → Int32) (r_t_code : Nat → Int32) (r_t_refused : Nat → Int32) (r_t_ahead : Nat → Int32) (K41 : Int32 → Int32 → Int32 → (Nat → Int32) → (Nat → Int32) → (Nat → Int32) → Option (Int32 × Int32 × Int32 × Int32 × Int32 × (Nat → Int32) × (Nat → Int32) × (Nat → Int32) × (Nat → Int32) × (Nat → Int32))) (x2 : Int32) (v_t_learntNow : Int32) (v_t_forgottenNow : Int32) (r_t_rows : Nat → Int32) (r_t_told : Nat → Int32) (r_t_pile : Nat → Int32) : Option (Int32 × Int32 × Int32 × Int32 × Int32 × (Nat → Int32) × (Nat → Int32) × (Nat → Int32) × (Nat → Int32) × (Nat → Int32)) :=
  if x1 ≤ x2 then
    gs_gd (gs_in 0 744) <|
    some (r_t_rows (0 : Int32).toNatClampNeg, v_t_thrown, v_t_acts, v_t_learntNow, v_t_forgottenNow, r_t_refused, r_t_rows, r_t_ahead, r_t_told, r_t_pile)
  else
    gs_b5 (f_X12_dayGoes 0 v_t_songs v_t_people v_t_forgetsAt v_t_fillsAt v_t_isWinter v_t_learntNow v_t_forgottenNow r_t_songLong r_t_wit r_t_code r_t_rows r_t_told r_t_pile) fun o9_0 o9_1 o9_2 o9_3 o9_4 =>
    K41 (x2 + 1) o9_0 o9_1 o9_2 o9_3 o9_4
set_option maxHeartbeats 4000000 in
set_option maxRecDepth 100000 in
theorem t_X12_days_41_b {p : Program} {l : Launch} {e : Env} {s : State} {m : MethodId} {args : Array Value} {below : List Frame} {meth : Method} {c : Code} {Q : State → Prop} {E : gs_E} {A : Nat → Prop} {a_t a_t_songLong a_t_wit a_t_code a_t_refused a_t_rows a_t_ahead a_t_told a_t_pile a_t_firstNote a_t_tape a_t_newSongLong a_t_newFirstNote a_t_newWit a_t_newRow a_t_readCode a_t_waits a_t_tested a_t_isTold a_t_common a_t_mostOf a_t_likes a_t_heard a_t_soon a_t_soonAll a_t_imageRow a_t_imageAhead a_t_imageHears : Nat} {rr : Int32} {o_t_thrown : Int32} {o_t_acts : Int32} {o_t_learntNow : Int32} {o_t_forgottenNow : Int32} {o_t_refused : Nat → Int32} {o_t_rows : Nat → Int32} {o_t_ahead : Nat → Int32} {o_t_told : Nat → Int32} {o_t_pile : Nat → Int32} (X0 : gs_X wsX12_days cX12_days RX12 3 (some .int) p s m args meth c) (hk : gs_K E s) {v_t_thrown : Int32} {v_t_songs : Int32} {v_t_people : Int32} {v_t_forgetsAt : Int32} {v_t_fillsAt : Int32} {v_t_taped : Int32} {v_t_faultKind : Int32} {v_t_faultPlace : Int32} {v_t_long1 : Int32} {v_t_next0 : Int32} {v_t_sort : Int32} {v_t_place : Int32} {v_t_long0 : Int32} {v_t_value : Int32} {v_t_sign : Int32} {v_t_word : Int64} {v_t_newSongs : Int32} {v_t_newPeople : Int32} {v_t_newForgetsAt : Int32} {v_t_newFillsAt : Int32} {v_t_top : Int32} {v_t_firstValue : Int32} {v_t_lastValue : Int32} {v_t_waiting : Int32} {v_t_depth : Int32} {v_t_acts : Int32} {v_t_isWinter : Int32} {v_t_learntNow : Int32} {v_t_forgottenNow : Int32} {v_t_heardMany : Int32} {v_t_its0 : Int32} {v_t_hasImage : Int32} {v_t_imageActs : Int32} {v_t_imageHeard : Int32} {r_t_songLong : Nat → Int32} {r_t_wit : Nat → Int32} {r_t_code : Nat → Int32} {r_t_refused : Nat → Int32} {r_t_rows : Nat → Int32} {r_t_ahead : Nat → Int32} {r_t_told : Nat → Int32} {r_t_pile : Nat → Int32} {x1 : Int32} {x2 : Int32} (hret : ∀ (H : Heap) (locs : List Loc) (pc : Nat) (ls : Array Slot), va_P E.1 vwCl (w_X12_days E a_t a_t_songLong a_t_wit a_t_code a_t_refused a_t_rows a_t_ahead a_t_told a_t_pile a_t_firstNote a_t_tape a_t_newSongLong a_t_newFirstNote a_t_newWit a_t_newRow a_t_readCode a_t_waits a_t_tested a_t_isTold a_t_common a_t_mostOf a_t_likes a_t_heard a_t_soon a_t_soonAll a_t_imageRow a_t_imageAhead a_t_imageHears o_t_thrown v_t_songs v_t_people v_t_forgetsAt v_t_fillsAt v_t_taped v_t_faultKind v_t_faultPlace v_t_long1 v_t_next0 v_t_sort v_t_place v_t_long0 v_t_value v_t_sign v_t_word v_t_newSongs v_t_newPeople v_t_newForgetsAt v_t_newFillsAt v_t_top v_t_firstValue v_t_lastValue v_t_waiting v_t_depth o_t_acts v_t_isWinter o_t_learntNow o_t_forgottenNow v_t_heardMany v_t_its0 v_t_hasImage v_t_imageActs v_t_imageHeard r_t_songLong r_t_wit r_t_code o_t_refused o_t_rows o_t_ahead o_t_told o_t_pile) H → va_S A s.heap H locs → decode cX12_days pc = .ok (.ireturn, 1) → W p l e rm_X12_days s m args below meth c H locs 0 0 Q (F0 m pc ls [.int rr])) {K41 : Int32 → Int32 → Int32 → (Nat → Int32) → (Nat → Int32) → (Nat → Int32) → Option (Int32 × Int32 × Int32 × Int32 × Int32 × (Nat → Int32) × (Nat → Int32) × (Nat → Int32) × (Nat → Int32) × (Nat → Int32))} (hK41 : ∀ (x2 : Int32) (v_t_learntNow : Int32) (v_t_forgottenNow : Int32) (r_t_rows : Nat → Int32) (r_t_told : Nat → Int32) (r_t_pile : Nat → Int32), K41 x2 v_t_learntNow v_t_forgottenNow r_t_rows r_t_told r_t_pile = some (rr, o_t_thrown, o_t_acts, o_t_learntNow, o_t_forgottenNow, o_t_refused, o_t_rows, o_t_ahead, o_t_told, o_t_pile) → S_X12_days_41 p l e s m args below meth c Q a_t a_t_songLong a_t_wit a_t_code a_t_refused a_t_rows a_t_ahead a_t_told a_t_pile a_t_firstNote a_t_tape a_t_newSongLong a_t_newFirstNote a_t_newWit a_t_newRow a_t_readCode a_t_waits a_t_tested a_t_isTold a_t_common a_t_mostOf a_t_likes a_t_heard a_t_soon a_t_soonAll a_t_imageRow a_t_imageAhead a_t_imageHears E A v_t_thrown v_t_songs v_t_people v_t_forgetsAt v_t_fillsAt v_t_taped v_t_faultKind v_t_faultPlace v_t_long1 v_t_next0 v_t_sort v_t_place v_t_long0 v_t_value v_t_sign v_t_word v_t_newSongs v_t_newPeople v_t_newForgetsAt v_t_newFillsAt v_t_top v_t_firstValue v_t_lastValue v_t_waiting v_t_depth v_t_acts v_t_isWinter v_t_learntNow v_t_forgottenNow v_t_heardMany v_t_its0 v_t_hasImage v_t_imageActs v_t_imageHeard r_t_songLong r_t_wit r_t_code r_t_refused r_t_rows r_t_ahead r_t_told r_t_pile x1 x2) (h : f_X12_days_41 x1 v_t_thrown v_t_songs v_t_people v_t_forgetsAt v_t_fillsAt v_t_acts v_t_isWinter r_t_songLong r_t_wit r_t_code r_t_refused r_t_ahead K41 x2 v_t_learntNow v_t_forgottenNow r_t_rows r_t_told r_t_pile = some (rr, o_t_thrown, o_t_acts, o_t_learntNow, o_t_forgottenNow, o_t_refused, o_t_rows, o_t_ahead, o_t_told, o_t_pile)) : S_X12_days_41 p l e s m args below meth c Q a_t a_t_songLong a_t_wit a_t_code a_t_refused a_t_rows a_t_ahead a_t_told a_t_pile a_t_firstNote a_t_tape a_t_newSongLong a_t_newFirstNote a_t_newWit a_t_newRow a_t_readCode a_t_waits a_t_tested a_t_isTold a_t_common a_t_mostOf a_t_likes a_t_heard a_t_soon a_t_soonAll a_t_imageRow a_t_imageAhead a_t_imageHears E A v_t_thrown v_t_songs v_t_people v_t_forgetsAt v_t_fillsAt v_t_taped v_t_faultKind v_t_faultPlace v_t_long1 v_t_next0 v_t_sort v_t_place v_t_long0 v_t_value v_t_sign v_t_word v_t_newSongs v_t_newPeople v_t_newForgetsAt v_t_newFillsAt v_t_top v_t_firstValue v_t_lastValue v_t_waiting v_t_depth v_t_acts v_t_isWinter v_t_learntNow v_t_forgottenNow v_t_heardMany v_t_its0 v_t_hasImage v_t_imageActs v_t_imageHeard r_t_songLong r_t_wit r_t_code r_t_refused r_t_rows r_t_ahead r_t_told r_t_pile x1 x2 := by
  obtain ⟨hx, hb, hml, hown, hts, hr, hlk⟩ := id X0
  intro H locs ls hP hD hS hl
  unfold f_X12_days_41 at h
  refine lv_iload_n hx hb dX12_days_41 rfl (lv_at hl 2 rfl) ?_
  refine lv_iload_n hx hb dX12_days_42 rfl (lv_at hl 1 rfl) ?_
  refine lv_icmp_ge (tgt := 57) hx hb dX12_days_43 (by decide) (fun c7 => ?_) (fun c7 => ?_)
  · replace h := gs_ift c7 h
    refine lv_aload_n hx hb dX12_days_57 rfl (lv_at hl 0 rfl) ?_
    refine va_get (D := E.1) (ci := 12) (v := .ref a_t_rows) (C := RX12) (T := TX12) (N := 61) hx hb hts (fun _ h => (List.mem_cons_of_mem _ (List.mem_append_right _ h))) hown hk.1 hP 0 rfl rfl 39 (by decide) (hts (.fieldLink RX12 63 "GapSongsModel" "rows" "[I") (List.mem_cons_of_mem _ (List.mem_append_left _ (List.mem_append_left _ (List.mem_of_getElem? (i := 1) rfl))))) (fun _ h9 => h9) rfl dX12_days_58 ?_
    refine lv_iconst (v := 0) hx hb dX12_days_61 (by decide) ?_
    obtain ⟨g8, h⟩ := gs_gd_e h
    refine va_iald hx hb hk.1 hP 5 0 rfl rfl (gs_in_e g8) dX12_days_62 ?_
    have h := Option.some.inj h
    obtain ⟨w0, h⟩ := Prod.mk.inj h
    obtain ⟨w1, h⟩ := Prod.mk.inj h
    obtain ⟨w2, h⟩ := Prod.mk.inj h
    obtain ⟨w3, h⟩ := Prod.mk.inj h
    obtain ⟨w4, h⟩ := Prod.mk.inj h
    obtain ⟨w5, h⟩ := Prod.mk.inj h
    obtain ⟨w6, h⟩ := Prod.mk.inj h
    obtain ⟨w7, h⟩ := Prod.mk.inj h
    obtain ⟨w8, h⟩ := Prod.mk.inj h
    subst h
    subst w0
    subst w1
    subst w2
    subst w3
    subst w4
    subst w5
    subst w6
    subst w7
    subst w8
    exact hret _ _ _ _ hP hS dX12_days_63
  · replace h := gs_iff c7 h
    refine lv_aload_n hx hb dX12_days_46 rfl (lv_at hl 0 rfl) ?_
    refine lv_iconst (v := 0) hx hb dX12_days_47 (by decide) ?_
    obtain ⟨o9_0, o9_1, o9_2, o9_3, o9_4, hz9, h⟩ := gs_b5_e h
    refine gs_backWv (ws1 := (w_X12_days E a_t a_t_songLong a_t_wit a_t_code a_t_refused a_t_rows a_t_ahead a_t_told a_t_pile a_t_firstNote a_t_tape a_t_newSongLong a_t_newFirstNote a_t_newWit a_t_newRow a_t_readCode a_t_waits a_t_tested a_t_isTold a_t_common a_t_mostOf a_t_likes a_t_heard a_t_soon a_t_soonAll a_t_imageRow a_t_imageAhead a_t_imageHears v_t_thrown v_t_songs v_t_people v_t_forgetsAt v_t_fillsAt v_t_taped v_t_faultKind v_t_faultPlace v_t_long1 v_t_next0 v_t_sort v_t_place v_t_long0 v_t_value v_t_sign v_t_word v_t_newSongs v_t_newPeople v_t_newForgetsAt v_t_newFillsAt v_t_top v_t_firstValue v_t_lastValue v_t_waiting v_t_depth v_t_acts v_t_isWinter o9_0 o9_1 v_t_heardMany v_t_its0 v_t_hasImage v_t_imageActs v_t_imageHeard r_t_songLong r_t_wit r_t_code r_t_refused o9_2 r_t_ahead o9_3 o9_4)) (va_runV (As := [.int 0]) (rest := []) ⟨hx, hb, hml, hown, hts⟩ (c_X12_dayGoes l E a_t a_t_songLong a_t_wit a_t_code a_t_rows a_t_told a_t_pile a_t_firstNote a_t_tape a_t_refused a_t_newSongLong a_t_newFirstNote a_t_newWit a_t_newRow a_t_readCode a_t_waits a_t_tested a_t_isTold a_t_ahead a_t_common a_t_mostOf a_t_likes a_t_heard a_t_soon a_t_soonAll a_t_imageRow a_t_imageAhead a_t_imageHears v_t_thrown v_t_songs v_t_people v_t_forgetsAt v_t_fillsAt v_t_taped v_t_faultKind v_t_faultPlace v_t_long1 v_t_next0 v_t_sort v_t_place v_t_long0 v_t_value v_t_sign v_t_word v_t_newSongs v_t_newPeople v_t_newForgetsAt v_t_newFillsAt v_t_top v_t_firstValue v_t_lastValue v_t_waiting v_t_depth v_t_acts v_t_isWinter v_t_learntNow v_t_forgottenNow v_t_heardMany v_t_its0 v_t_hasImage v_t_imageActs v_t_imageHeard r_t_songLong r_t_wit r_t_code r_t_rows r_t_told r_t_pile 0 o9_0 o9_1 o9_2 o9_3 o9_4 hz9) (cwV 1 hts gX12_days_X12_dayGoes rfl rfl rfl (by decide +kernel) ⟨Nat.le_of_ble_eq_true rfl, Nat.le_of_ble_eq_true rfl⟩) (gs_preV (ci := 12) hk hP hD (is := [0, 1, 2, 3, 5, 7, 8]) rfl rfl rfl rfl) rfl rfl hl.1 rfl (lv_room (Nat.le_of_ble_eq_true rfl)) dX12_days_48 ⟨Nat.zero_le _, Nat.zero_le _⟩) hP hD hS [0, 1, 2, 3, 5, 7, 8] rfl rfl rfl rfl (fun H locs hP hD hS => ?_)
    refine lv_iinc (v := x2 + 1) (lv' := [(2, .int (x2 + 1)), (0, .ref a_t), (1, .int x1)]) hx hb dX12_days_51 hl (k := 2) rfl rfl (by decide) rfl (fun ls hl => ?_)
    refine lv_goto (tgt := 41) hx hb dX12_days_54 (by decide) ?_
    exact hK41 (x2 + 1) o9_0 o9_1 o9_2 o9_3 o9_4 h _ _ _ hP hD hS (lv_sub hl [1, 2, 0] rfl)
set_option maxHeartbeats 4000000 in
set_option maxRecDepth 100000 in
theorem t_X12_days_41_n {p : Program} {l : Launch} {e : Env} {s : State} {m : MethodId} {args : Array Value} {below : List Frame} {meth : Method} {c : Code} {Q : State → Prop} {E : gs_E} {A : Nat → Prop} {a_t a_t_songLong a_t_wit a_t_code a_t_refused a_t_rows a_t_ahead a_t_told a_t_pile a_t_firstNote a_t_tape a_t_newSongLong a_t_newFirstNote a_t_newWit a_t_newRow a_t_readCode a_t_waits a_t_tested a_t_isTold a_t_common a_t_mostOf a_t_likes a_t_heard a_t_soon a_t_soonAll a_t_imageRow a_t_imageAhead a_t_imageHears : Nat} {rr : Int32} {o_t_thrown : Int32} {o_t_acts : Int32} {o_t_learntNow : Int32} {o_t_forgottenNow : Int32} {o_t_refused : Nat → Int32} {o_t_rows : Nat → Int32} {o_t_ahead : Nat → Int32} {o_t_told : Nat → Int32} {o_t_pile : Nat → Int32} (X0 : gs_X wsX12_days cX12_days RX12 3 (some .int) p s m args meth c) (hk : gs_K E s) {v_t_thrown : Int32} {v_t_songs : Int32} {v_t_people : Int32} {v_t_forgetsAt : Int32} {v_t_fillsAt : Int32} {v_t_taped : Int32} {v_t_faultKind : Int32} {v_t_faultPlace : Int32} {v_t_long1 : Int32} {v_t_next0 : Int32} {v_t_sort : Int32} {v_t_place : Int32} {v_t_long0 : Int32} {v_t_value : Int32} {v_t_sign : Int32} {v_t_word : Int64} {v_t_newSongs : Int32} {v_t_newPeople : Int32} {v_t_newForgetsAt : Int32} {v_t_newFillsAt : Int32} {v_t_top : Int32} {v_t_firstValue : Int32} {v_t_lastValue : Int32} {v_t_waiting : Int32} {v_t_depth : Int32} {v_t_acts : Int32} {v_t_isWinter : Int32} {v_t_heardMany : Int32} {v_t_its0 : Int32} {v_t_hasImage : Int32} {v_t_imageActs : Int32} {v_t_imageHeard : Int32} {r_t_songLong : Nat → Int32} {r_t_wit : Nat → Int32} {r_t_code : Nat → Int32} {r_t_refused : Nat → Int32} {r_t_ahead : Nat → Int32} {x1 : Int32} (hret : ∀ (H : Heap) (locs : List Loc) (pc : Nat) (ls : Array Slot), va_P E.1 vwCl (w_X12_days E a_t a_t_songLong a_t_wit a_t_code a_t_refused a_t_rows a_t_ahead a_t_told a_t_pile a_t_firstNote a_t_tape a_t_newSongLong a_t_newFirstNote a_t_newWit a_t_newRow a_t_readCode a_t_waits a_t_tested a_t_isTold a_t_common a_t_mostOf a_t_likes a_t_heard a_t_soon a_t_soonAll a_t_imageRow a_t_imageAhead a_t_imageHears o_t_thrown v_t_songs v_t_people v_t_forgetsAt v_t_fillsAt v_t_taped v_t_faultKind v_t_faultPlace v_t_long1 v_t_next0 v_t_sort v_t_place v_t_long0 v_t_value v_t_sign v_t_word v_t_newSongs v_t_newPeople v_t_newForgetsAt v_t_newFillsAt v_t_top v_t_firstValue v_t_lastValue v_t_waiting v_t_depth o_t_acts v_t_isWinter o_t_learntNow o_t_forgottenNow v_t_heardMany v_t_its0 v_t_hasImage v_t_imageActs v_t_imageHeard r_t_songLong r_t_wit r_t_code o_t_refused o_t_rows o_t_ahead o_t_told o_t_pile) H → va_S A s.heap H locs → decode cX12_days pc = .ok (.ireturn, 1) → W p l e rm_X12_days s m args below meth c H locs 0 0 Q (F0 m pc ls [.int rr])) : ∀ (n : Nat) (x2 : Int32) (v_t_learntNow : Int32) (v_t_forgottenNow : Int32) (r_t_rows : Nat → Int32) (r_t_told : Nat → Int32) (r_t_pile : Nat → Int32), gs_it (fun _ _ _ _ _ _ => none) (f_X12_days_41 x1 v_t_thrown v_t_songs v_t_people v_t_forgetsAt v_t_fillsAt v_t_acts v_t_isWinter r_t_songLong r_t_wit r_t_code r_t_refused r_t_ahead) n x2 v_t_learntNow v_t_forgottenNow r_t_rows r_t_told r_t_pile = some (rr, o_t_thrown, o_t_acts, o_t_learntNow, o_t_forgottenNow, o_t_refused, o_t_rows, o_t_ahead, o_t_told, o_t_pile) → S_X12_days_41 p l e s m args below meth c Q a_t a_t_songLong a_t_wit a_t_code a_t_refused a_t_rows a_t_ahead a_t_told a_t_pile a_t_firstNote a_t_tape a_t_newSongLong a_t_newFirstNote a_t_newWit a_t_newRow a_t_readCode a_t_waits a_t_tested a_t_isTold a_t_common a_t_mostOf a_t_likes a_t_heard a_t_soon a_t_soonAll a_t_imageRow a_t_imageAhead a_t_imageHears E A v_t_thrown v_t_songs v_t_people v_t_forgetsAt v_t_fillsAt v_t_taped v_t_faultKind v_t_faultPlace v_t_long1 v_t_next0 v_t_sort v_t_place v_t_long0 v_t_value v_t_sign v_t_word v_t_newSongs v_t_newPeople v_t_newForgetsAt v_t_newFillsAt v_t_top v_t_firstValue v_t_lastValue v_t_waiting v_t_depth v_t_acts v_t_isWinter v_t_learntNow v_t_forgottenNow v_t_heardMany v_t_its0 v_t_hasImage v_t_imageActs v_t_imageHeard r_t_songLong r_t_wit r_t_code r_t_refused r_t_rows r_t_ahead r_t_told r_t_pile x1 x2 := by
  intro n
  induction n with
  | zero =>
    intro x2 v_t_learntNow v_t_forgottenNow r_t_rows r_t_told r_t_pile h
    have h : (none : Option (Int32 × Int32 × Int32 × Int32 × Int32 × (Nat → Int32) × (Nat → Int32) × (Nat → Int32) × (Nat → Int32) × (Nat → Int32))) = some (rr, o_t_thrown, o_t_acts, o_t_learntNow, o_t_forgottenNow, o_t_refused, o_t_rows, o_t_ahead, o_t_told, o_t_pile) := h
    cases h
  | succ n ih =>
    intro x2 v_t_learntNow v_t_forgottenNow r_t_rows r_t_told r_t_pile h
    exact t_X12_days_41_b X0 hk  hret  (K41 := gs_it (fun _ _ _ _ _ _ => none) (f_X12_days_41 x1 v_t_thrown v_t_songs v_t_people v_t_forgetsAt v_t_fillsAt v_t_acts v_t_isWinter r_t_songLong r_t_wit r_t_code r_t_refused r_t_ahead) n) (hK41 := ih) (h := h)
theorem t_X12_days_41 {p : Program} {l : Launch} {e : Env} {s : State} {m : MethodId} {args : Array Value} {below : List Frame} {meth : Method} {c : Code} {Q : State → Prop} {E : gs_E} {A : Nat → Prop} {a_t a_t_songLong a_t_wit a_t_code a_t_refused a_t_rows a_t_ahead a_t_told a_t_pile a_t_firstNote a_t_tape a_t_newSongLong a_t_newFirstNote a_t_newWit a_t_newRow a_t_readCode a_t_waits a_t_tested a_t_isTold a_t_common a_t_mostOf a_t_likes a_t_heard a_t_soon a_t_soonAll a_t_imageRow a_t_imageAhead a_t_imageHears : Nat} {rr : Int32} {o_t_thrown : Int32} {o_t_acts : Int32} {o_t_learntNow : Int32} {o_t_forgottenNow : Int32} {o_t_refused : Nat → Int32} {o_t_rows : Nat → Int32} {o_t_ahead : Nat → Int32} {o_t_told : Nat → Int32} {o_t_pile : Nat → Int32} (X0 : gs_X wsX12_days cX12_days RX12 3 (some .int) p s m args meth c) (hk : gs_K E s) {v_t_thrown : Int32} {v_t_songs : Int32} {v_t_people : Int32} {v_t_forgetsAt : Int32} {v_t_fillsAt : Int32} {v_t_taped : Int32} {v_t_faultKind : Int32} {v_t_faultPlace : Int32} {v_t_long1 : Int32} {v_t_next0 : Int32} {v_t_sort : Int32} {v_t_place : Int32} {v_t_long0 : Int32} {v_t_value : Int32} {v_t_sign : Int32} {v_t_word : Int64} {v_t_newSongs : Int32} {v_t_newPeople : Int32} {v_t_newForgetsAt : Int32} {v_t_newFillsAt : Int32} {v_t_top : Int32} {v_t_firstValue : Int32} {v_t_lastValue : Int32} {v_t_waiting : Int32} {v_t_depth : Int32} {v_t_acts : Int32} {v_t_isWinter : Int32} {v_t_learntNow : Int32} {v_t_forgottenNow : Int32} {v_t_heardMany : Int32} {v_t_its0 : Int32} {v_t_hasImage : Int32} {v_t_imageActs : Int32} {v_t_imageHeard : Int32} {r_t_songLong : Nat → Int32} {r_t_wit : Nat → Int32} {r_t_code : Nat → Int32} {r_t_refused : Nat → Int32} {r_t_rows : Nat → Int32} {r_t_ahead : Nat → Int32} {r_t_told : Nat → Int32} {r_t_pile : Nat → Int32} {x1 : Int32} {x2 : Int32} (hret : ∀ (H : Heap) (locs : List Loc) (pc : Nat) (ls : Array Slot), va_P E.1 vwCl (w_X12_days E a_t a_t_songLong a_t_wit a_t_code a_t_refused a_t_rows a_t_ahead a_t_told a_t_pile a_t_firstNote a_t_tape a_t_newSongLong a_t_newFirstNote a_t_newWit a_t_newRow a_t_readCode a_t_waits a_t_tested a_t_isTold a_t_common a_t_mostOf a_t_likes a_t_heard a_t_soon a_t_soonAll a_t_imageRow a_t_imageAhead a_t_imageHears o_t_thrown v_t_songs v_t_people v_t_forgetsAt v_t_fillsAt v_t_taped v_t_faultKind v_t_faultPlace v_t_long1 v_t_next0 v_t_sort v_t_place v_t_long0 v_t_value v_t_sign v_t_word v_t_newSongs v_t_newPeople v_t_newForgetsAt v_t_newFillsAt v_t_top v_t_firstValue v_t_lastValue v_t_waiting v_t_depth o_t_acts v_t_isWinter o_t_learntNow o_t_forgottenNow v_t_heardMany v_t_its0 v_t_hasImage v_t_imageActs v_t_imageHeard r_t_songLong r_t_wit r_t_code o_t_refused o_t_rows o_t_ahead o_t_told o_t_pile) H → va_S A s.heap H locs → decode cX12_days pc = .ok (.ireturn, 1) → W p l e rm_X12_days s m args below meth c H locs 0 0 Q (F0 m pc ls [.int rr])) (h : gs_it (fun _ _ _ _ _ _ => none) (f_X12_days_41 x1 v_t_thrown v_t_songs v_t_people v_t_forgetsAt v_t_fillsAt v_t_acts v_t_isWinter r_t_songLong r_t_wit r_t_code r_t_refused r_t_ahead) gs_fuel x2 v_t_learntNow v_t_forgottenNow r_t_rows r_t_told r_t_pile = some (rr, o_t_thrown, o_t_acts, o_t_learntNow, o_t_forgottenNow, o_t_refused, o_t_rows, o_t_ahead, o_t_told, o_t_pile)) : S_X12_days_41 p l e s m args below meth c Q a_t a_t_songLong a_t_wit a_t_code a_t_refused a_t_rows a_t_ahead a_t_told a_t_pile a_t_firstNote a_t_tape a_t_newSongLong a_t_newFirstNote a_t_newWit a_t_newRow a_t_readCode a_t_waits a_t_tested a_t_isTold a_t_common a_t_mostOf a_t_likes a_t_heard a_t_soon a_t_soonAll a_t_imageRow a_t_imageAhead a_t_imageHears E A v_t_thrown v_t_songs v_t_people v_t_forgetsAt v_t_fillsAt v_t_taped v_t_faultKind v_t_faultPlace v_t_long1 v_t_next0 v_t_sort v_t_place v_t_long0 v_t_value v_t_sign v_t_word v_t_newSongs v_t_newPeople v_t_newForgetsAt v_t_newFillsAt v_t_top v_t_firstValue v_t_lastValue v_t_waiting v_t_depth v_t_acts v_t_isWinter v_t_learntNow v_t_forgottenNow v_t_heardMany v_t_its0 v_t_hasImage v_t_imageActs v_t_imageHeard r_t_songLong r_t_wit r_t_code r_t_refused r_t_rows r_t_ahead r_t_told r_t_pile x1 x2 :=
  t_X12_days_41_n X0 hk  hret  gs_fuel x2 v_t_learntNow v_t_forgottenNow r_t_rows r_t_told r_t_pile h
def f_X12_days (x1 : Int32) (v_t_thrown : Int32) (v_t_songs : Int32) (v_t_people : Int32) (v_t_forgetsAt : Int32) (v_t_fillsAt : Int32) (v_t_acts : Int32) (v_t_isWinter : Int32) (v_t_learntNow : Int32) (v_t_forgottenNow : Int32) (r_t_songLong : Nat → Int32) (r_t_wit : Nat → Int32) (r_t_code : Nat → Int32) (r_t_refused : Nat → Int32) (r_t_rows : Nat → Int32) (r_t_ahead : Nat → Int32) (r_t_told : Nat → Int32) (r_t_pile : Nat → Int32) : Option (Int32 × Int32 × Int32 × Int32 × Int32 × (Nat → Int32) × (Nat → Int32) × (Nat → Int32) × (Nat → Int32) × (Nat → Int32)) :=
  gs_b1 (f_X12_within x1 1 20) fun r1 =>
  if r1 = 0 then
    f_X12_days_29 0 v_t_acts v_t_learntNow v_t_forgottenNow r_t_refused r_t_rows r_t_ahead r_t_told r_t_pile
  else
    gs_gd (gs_in 0 744) <|
    if ((r_t_rows (0 : Int32).toNatClampNeg) + x1) ≤ 9999 then
      gs_b2 (f_X12_keeps v_t_acts r_t_rows r_t_ahead) fun o6_0 o6_1 =>
      gs_it (fun _ _ _ _ _ _ => none) (f_X12_days_41 x1 0 v_t_songs v_t_people v_t_forgetsAt v_t_fillsAt o6_0 v_t_isWinter r_t_songLong r_t_wit r_t_code r_t_refused o6_1) gs_fuel 0 v_t_learntNow v_t_forgottenNow r_t_rows r_t_told r_t_pile
    else
      f_X12_days_29 0 v_t_acts v_t_learntNow v_t_forgottenNow r_t_refused r_t_rows r_t_ahead r_t_told r_t_pile
set_option maxHeartbeats 4000000 in
set_option maxRecDepth 100000 in
theorem c_X12_days (l : Launch) (E : gs_E) (a_t a_t_songLong a_t_wit a_t_code a_t_refused a_t_rows a_t_ahead a_t_told a_t_pile a_t_firstNote a_t_tape a_t_newSongLong a_t_newFirstNote a_t_newWit a_t_newRow a_t_readCode a_t_waits a_t_tested a_t_isTold a_t_common a_t_mostOf a_t_likes a_t_heard a_t_soon a_t_soonAll a_t_imageRow a_t_imageAhead a_t_imageHears : Nat) (v_t_thrown : Int32) (v_t_songs : Int32) (v_t_people : Int32) (v_t_forgetsAt : Int32) (v_t_fillsAt : Int32) (v_t_taped : Int32) (v_t_faultKind : Int32) (v_t_faultPlace : Int32) (v_t_long1 : Int32) (v_t_next0 : Int32) (v_t_sort : Int32) (v_t_place : Int32) (v_t_long0 : Int32) (v_t_value : Int32) (v_t_sign : Int32) (v_t_word : Int64) (v_t_newSongs : Int32) (v_t_newPeople : Int32) (v_t_newForgetsAt : Int32) (v_t_newFillsAt : Int32) (v_t_top : Int32) (v_t_firstValue : Int32) (v_t_lastValue : Int32) (v_t_waiting : Int32) (v_t_depth : Int32) (v_t_acts : Int32) (v_t_isWinter : Int32) (v_t_learntNow : Int32) (v_t_forgottenNow : Int32) (v_t_heardMany : Int32) (v_t_its0 : Int32) (v_t_hasImage : Int32) (v_t_imageActs : Int32) (v_t_imageHeard : Int32) (r_t_songLong : Nat → Int32) (r_t_wit : Nat → Int32) (r_t_code : Nat → Int32) (r_t_refused : Nat → Int32) (r_t_rows : Nat → Int32) (r_t_ahead : Nat → Int32) (r_t_told : Nat → Int32) (r_t_pile : Nat → Int32) (x1 : Int32) (rr : Int32) (o_t_thrown : Int32) (o_t_acts : Int32) (o_t_learntNow : Int32) (o_t_forgottenNow : Int32) (o_t_refused : Nat → Int32) (o_t_rows : Nat → Int32) (o_t_ahead : Nat → Int32) (o_t_told : Nat → Int32) (o_t_pile : Nat → Int32) (h : f_X12_days x1 v_t_thrown v_t_songs v_t_people v_t_forgetsAt v_t_fillsAt v_t_acts v_t_isWinter v_t_learntNow v_t_forgottenNow r_t_songLong r_t_wit r_t_code r_t_refused r_t_rows r_t_ahead r_t_told r_t_pile = some (rr, o_t_thrown, o_t_acts, o_t_learntNow, o_t_forgottenNow, o_t_refused, o_t_rows, o_t_ahead, o_t_told, o_t_pile)) : gs_MW l yX12_days wsX12_days rm_X12_days [.ref a_t, .int x1] E (w_X12_days E a_t a_t_songLong a_t_wit a_t_code a_t_refused a_t_rows a_t_ahead a_t_told a_t_pile a_t_firstNote a_t_tape a_t_newSongLong a_t_newFirstNote a_t_newWit a_t_newRow a_t_readCode a_t_waits a_t_tested a_t_isTold a_t_common a_t_mostOf a_t_likes a_t_heard a_t_soon a_t_soonAll a_t_imageRow a_t_imageAhead a_t_imageHears v_t_thrown v_t_songs v_t_people v_t_forgetsAt v_t_fillsAt v_t_taped v_t_faultKind v_t_faultPlace v_t_long1 v_t_next0 v_t_sort v_t_place v_t_long0 v_t_value v_t_sign v_t_word v_t_newSongs v_t_newPeople v_t_newForgetsAt v_t_newFillsAt v_t_top v_t_firstValue v_t_lastValue v_t_waiting v_t_depth v_t_acts v_t_isWinter v_t_learntNow v_t_forgottenNow v_t_heardMany v_t_its0 v_t_hasImage v_t_imageActs v_t_imageHeard r_t_songLong r_t_wit r_t_code r_t_refused r_t_rows r_t_ahead r_t_told r_t_pile) (w_X12_days E a_t a_t_songLong a_t_wit a_t_code a_t_refused a_t_rows a_t_ahead a_t_told a_t_pile a_t_firstNote a_t_tape a_t_newSongLong a_t_newFirstNote a_t_newWit a_t_newRow a_t_readCode a_t_waits a_t_tested a_t_isTold a_t_common a_t_mostOf a_t_likes a_t_heard a_t_soon a_t_soonAll a_t_imageRow a_t_imageAhead a_t_imageHears o_t_thrown v_t_songs v_t_people v_t_forgetsAt v_t_fillsAt v_t_taped v_t_faultKind v_t_faultPlace v_t_long1 v_t_next0 v_t_sort v_t_place v_t_long0 v_t_value v_t_sign v_t_word v_t_newSongs v_t_newPeople v_t_newForgetsAt v_t_newFillsAt v_t_top v_t_firstValue v_t_lastValue v_t_waiting v_t_depth o_t_acts v_t_isWinter o_t_learntNow o_t_forgottenNow v_t_heardMany v_t_its0 v_t_hasImage v_t_imageActs v_t_imageHeard r_t_songLong r_t_wit r_t_code o_t_refused o_t_rows o_t_ahead o_t_told o_t_pile) (some (.int rr)) := by
  refine Met.ofW (cc := cX12_days) (maxL := 3) (ret := (some .int)) (by decide) rfl ?_
  intro p e s m args below meth c s₁ B hml hv
  obtain ⟨rfl, hP, hk, hD0⟩ := hv
  have X0 : gs_X wsX12_days cX12_days RX12 3 (some .int) p s m ([.ref a_t, .int x1] : List Value).toArray meth c := gs_X.of B hml
  obtain ⟨hx, hb, -, hown, hts, hr, hlk⟩ := id X0
  have hD := (gs_D_self hD0)
  generalize hAe : gs_w (w_X12_days E a_t a_t_songLong a_t_wit a_t_code a_t_refused a_t_rows a_t_ahead a_t_told a_t_pile a_t_firstNote a_t_tape a_t_newSongLong a_t_newFirstNote a_t_newWit a_t_newRow a_t_readCode a_t_waits a_t_tested a_t_isTold a_t_common a_t_mostOf a_t_likes a_t_heard a_t_soon a_t_soonAll a_t_imageRow a_t_imageAhead a_t_imageHears v_t_thrown v_t_songs v_t_people v_t_forgetsAt v_t_fillsAt v_t_taped v_t_faultKind v_t_faultPlace v_t_long1 v_t_next0 v_t_sort v_t_place v_t_long0 v_t_value v_t_sign v_t_word v_t_newSongs v_t_newPeople v_t_newForgetsAt v_t_newFillsAt v_t_top v_t_firstValue v_t_lastValue v_t_waiting v_t_depth v_t_acts v_t_isWinter v_t_learntNow v_t_forgottenNow v_t_heardMany v_t_its0 v_t_hasImage v_t_imageActs v_t_imageHeard r_t_songLong r_t_wit r_t_code r_t_refused r_t_rows r_t_ahead r_t_told r_t_pile) = A at hD ⊢
  have hS : va_S A s.heap s.heap [] := va_S.rf
  have hret : ∀ (H : Heap) (locs : List Loc) (pc : Nat) (ls : Array Slot), va_P E.1 vwCl (w_X12_days E a_t a_t_songLong a_t_wit a_t_code a_t_refused a_t_rows a_t_ahead a_t_told a_t_pile a_t_firstNote a_t_tape a_t_newSongLong a_t_newFirstNote a_t_newWit a_t_newRow a_t_readCode a_t_waits a_t_tested a_t_isTold a_t_common a_t_mostOf a_t_likes a_t_heard a_t_soon a_t_soonAll a_t_imageRow a_t_imageAhead a_t_imageHears o_t_thrown v_t_songs v_t_people v_t_forgetsAt v_t_fillsAt v_t_taped v_t_faultKind v_t_faultPlace v_t_long1 v_t_next0 v_t_sort v_t_place v_t_long0 v_t_value v_t_sign v_t_word v_t_newSongs v_t_newPeople v_t_newForgetsAt v_t_newFillsAt v_t_top v_t_firstValue v_t_lastValue v_t_waiting v_t_depth o_t_acts v_t_isWinter o_t_learntNow o_t_forgottenNow v_t_heardMany v_t_its0 v_t_hasImage v_t_imageActs v_t_imageHeard r_t_songLong r_t_wit r_t_code o_t_refused o_t_rows o_t_ahead o_t_told o_t_pile) H → va_S A s.heap H locs → decode cX12_days pc = .ok (.ireturn, 1) → W p l e rm_X12_days s m ([.ref a_t, .int x1] : List Value).toArray below meth c H locs 0 0 (MQ below (gs_QWA E A (w_X12_days E a_t a_t_songLong a_t_wit a_t_code a_t_refused a_t_rows a_t_ahead a_t_told a_t_pile a_t_firstNote a_t_tape a_t_newSongLong a_t_newFirstNote a_t_newWit a_t_newRow a_t_readCode a_t_waits a_t_tested a_t_isTold a_t_common a_t_mostOf a_t_likes a_t_heard a_t_soon a_t_soonAll a_t_imageRow a_t_imageAhead a_t_imageHears o_t_thrown v_t_songs v_t_people v_t_forgetsAt v_t_fillsAt v_t_taped v_t_faultKind v_t_faultPlace v_t_long1 v_t_next0 v_t_sort v_t_place v_t_long0 v_t_value v_t_sign v_t_word v_t_newSongs v_t_newPeople v_t_newForgetsAt v_t_newFillsAt v_t_top v_t_firstValue v_t_lastValue v_t_waiting v_t_depth o_t_acts v_t_isWinter o_t_learntNow o_t_forgottenNow v_t_heardMany v_t_its0 v_t_hasImage v_t_imageActs v_t_imageHeard r_t_songLong r_t_wit r_t_code o_t_refused o_t_rows o_t_ahead o_t_told o_t_pile) (some (.int rr))) ([.ref a_t, .int x1] : List Value).toArray s 0 0 A) (F0 m pc ls [.int rr]) := fun H locs pc ls hP hS hd => W.iret hx hb hr (fun t ht hW => ⟨rfl, by rw [ht]; exact hP, hS.F ht⟩) hS.2.2 hd
  have hl := lv_entry ([.ref a_t, .int x1]) (n := 3) (Nat.le_of_ble_eq_true rfl)
  rw [lg_entry_eq]
  generalize (lg_sl ([.ref a_t, .int x1]) ++ List.replicate (3 - (lg_sl ([.ref a_t, .int x1])).length) Slot.unset).toArray = ls at hl ⊢
  have hl : lv_has ls 3 [(0, .ref a_t), (1, .int x1)] := hl
  unfold f_X12_days at h
  refine lv_aload_n hx hb dX12_days_0 rfl (lv_at hl 0 rfl) ?_
  refine lv_iconst (v := 0) hx hb dX12_days_1 (by decide) ?_
  refine va_put (D := E.1) (ci := 12) (v := .int 0) (ty := .int) (C := RX12) (T := TX12) (N := 61) hx hb hts (fun _ h => (List.mem_cons_of_mem _ (List.mem_append_right _ h))) tyX12 tyX12_ok nmX12 hown hk.1 hP hD hS 0 rfl rfl 0 (by decide) (hts (.fieldLink RX12 102 "GapSongsModel" "thrown" "I") (List.mem_cons_of_mem _ (List.mem_append_left _ (List.mem_append_left _ (List.mem_of_getElem? (i := 0) rfl))))) (fun _ h9 => h9) rfl (by decide +kernel) rfl rfl (Nat.le_of_ble_eq_true rfl) dX12_days_2 (fun H locs hP hD hS => ?_)
  have hP : va_P E.1 vwCl (w_X12_days E a_t a_t_songLong a_t_wit a_t_code a_t_refused a_t_rows a_t_ahead a_t_told a_t_pile a_t_firstNote a_t_tape a_t_newSongLong a_t_newFirstNote a_t_newWit a_t_newRow a_t_readCode a_t_waits a_t_tested a_t_isTold a_t_common a_t_mostOf a_t_likes a_t_heard a_t_soon a_t_soonAll a_t_imageRow a_t_imageAhead a_t_imageHears 0 v_t_songs v_t_people v_t_forgetsAt v_t_fillsAt v_t_taped v_t_faultKind v_t_faultPlace v_t_long1 v_t_next0 v_t_sort v_t_place v_t_long0 v_t_value v_t_sign v_t_word v_t_newSongs v_t_newPeople v_t_newForgetsAt v_t_newFillsAt v_t_top v_t_firstValue v_t_lastValue v_t_waiting v_t_depth v_t_acts v_t_isWinter v_t_learntNow v_t_forgottenNow v_t_heardMany v_t_its0 v_t_hasImage v_t_imageActs v_t_imageHeard r_t_songLong r_t_wit r_t_code r_t_refused r_t_rows r_t_ahead r_t_told r_t_pile) H := hP
  have hD : va_D A (w_X12_days E a_t a_t_songLong a_t_wit a_t_code a_t_refused a_t_rows a_t_ahead a_t_told a_t_pile a_t_firstNote a_t_tape a_t_newSongLong a_t_newFirstNote a_t_newWit a_t_newRow a_t_readCode a_t_waits a_t_tested a_t_isTold a_t_common a_t_mostOf a_t_likes a_t_heard a_t_soon a_t_soonAll a_t_imageRow a_t_imageAhead a_t_imageHears 0 v_t_songs v_t_people v_t_forgetsAt v_t_fillsAt v_t_taped v_t_faultKind v_t_faultPlace v_t_long1 v_t_next0 v_t_sort v_t_place v_t_long0 v_t_value v_t_sign v_t_word v_t_newSongs v_t_newPeople v_t_newForgetsAt v_t_newFillsAt v_t_top v_t_firstValue v_t_lastValue v_t_waiting v_t_depth v_t_acts v_t_isWinter v_t_learntNow v_t_forgottenNow v_t_heardMany v_t_its0 v_t_hasImage v_t_imageActs v_t_imageHeard r_t_songLong r_t_wit r_t_code r_t_refused r_t_rows r_t_ahead r_t_told r_t_pile) := hD
  refine lv_iload_n hx hb dX12_days_5 rfl (lv_at hl 1 rfl) ?_
  refine lv_iconst (v := 1) hx hb dX12_days_6 (by decide) ?_
  refine lv_bipush (v := 20) hx hb dX12_days_7 (by decide) ?_
  obtain ⟨r1, hz1, h⟩ := gs_b1_e h
  refine gs_backRi (va_runS (As := [.int x1, .int 1, .int 20]) (rest := []) ⟨hx, hb, hml, hown, hts⟩ (c_X12_within l E x1 1 20 r1 hz1) (va_cwS 3 hts gX12_days_X12_within rfl rfl rfl (by decide +kernel) ⟨Nat.le_of_ble_eq_true rfl, Nat.le_of_ble_eq_true rfl⟩) (gs_pre hk hP hD (is := []) rfl rfl) rfl rfl hl.1 rfl (lv_room (Nat.le_of_ble_eq_true rfl)) dX12_days_9 ⟨Nat.zero_le _, Nat.zero_le _⟩) ?_
  refine lv_if_eq (tgt := 29) hx hb dX12_days_12 (by decide) (fun c2 => ?_) (fun c2 => ?_)
  · replace h := gs_ift c2 h
    exact t_X12_days_29 X0 hk  hret  (h := h) _ _ _ hP hD hS (lv_sub hl [0] rfl)
  · replace h := gs_iff c2 h
    refine lv_aload_n hx hb dX12_days_15 rfl (lv_at hl 0 rfl) ?_
    refine va_get (D := E.1) (ci := 12) (v := .ref a_t_rows) (C := RX12) (T := TX12) (N := 61) hx hb hts (fun _ h => (List.mem_cons_of_mem _ (List.mem_append_right _ h))) hown hk.1 hP 0 rfl rfl 39 (by decide) (hts (.fieldLink RX12 63 "GapSongsModel" "rows" "[I") (List.mem_cons_of_mem _ (List.mem_append_left _ (List.mem_append_left _ (List.mem_of_getElem? (i := 1) rfl))))) (fun _ h9 => h9) rfl dX12_days_16 ?_
    refine lv_iconst (v := 0) hx hb dX12_days_19 (by decide) ?_
    obtain ⟨g4, h⟩ := gs_gd_e h
    refine va_iald hx hb hk.1 hP 5 0 rfl rfl (gs_in_e g4) dX12_days_20 ?_
    refine lv_iload_n hx hb dX12_days_21 rfl (lv_at hl 1 rfl) ?_
    refine lv_iadd hx hb dX12_days_22 ?_
    refine lv_sipush (v := 9999) hx hb dX12_days_23 (by decide) ?_
    refine lv_icmp_le (tgt := 35) hx hb dX12_days_26 (by decide) (fun c5 => ?_) (fun c5 => ?_)
    · replace h := gs_ift c5 h
      refine lv_aload_n hx hb dX12_days_35 rfl (lv_at hl 0 rfl) ?_
      obtain ⟨o6_0, o6_1, hz6, h⟩ := gs_b2_e h
      refine gs_backWv (ws1 := (w_X12_days E a_t a_t_songLong a_t_wit a_t_code a_t_refused a_t_rows a_t_ahead a_t_told a_t_pile a_t_firstNote a_t_tape a_t_newSongLong a_t_newFirstNote a_t_newWit a_t_newRow a_t_readCode a_t_waits a_t_tested a_t_isTold a_t_common a_t_mostOf a_t_likes a_t_heard a_t_soon a_t_soonAll a_t_imageRow a_t_imageAhead a_t_imageHears 0 v_t_songs v_t_people v_t_forgetsAt v_t_fillsAt v_t_taped v_t_faultKind v_t_faultPlace v_t_long1 v_t_next0 v_t_sort v_t_place v_t_long0 v_t_value v_t_sign v_t_word v_t_newSongs v_t_newPeople v_t_newForgetsAt v_t_newFillsAt v_t_top v_t_firstValue v_t_lastValue v_t_waiting v_t_depth o6_0 v_t_isWinter v_t_learntNow v_t_forgottenNow v_t_heardMany v_t_its0 v_t_hasImage v_t_imageActs v_t_imageHeard r_t_songLong r_t_wit r_t_code r_t_refused r_t_rows o6_1 r_t_told r_t_pile)) (va_runV (As := []) (rest := []) ⟨hx, hb, hml, hown, hts⟩ (c_X12_keeps l E a_t a_t_rows a_t_ahead a_t_songLong a_t_firstNote a_t_wit a_t_code a_t_tape a_t_refused a_t_newSongLong a_t_newFirstNote a_t_newWit a_t_newRow a_t_readCode a_t_waits a_t_tested a_t_isTold a_t_told a_t_pile a_t_common a_t_mostOf a_t_likes a_t_heard a_t_soon a_t_soonAll a_t_imageRow a_t_imageAhead a_t_imageHears 0 v_t_songs v_t_people v_t_forgetsAt v_t_fillsAt v_t_taped v_t_faultKind v_t_faultPlace v_t_long1 v_t_next0 v_t_sort v_t_place v_t_long0 v_t_value v_t_sign v_t_word v_t_newSongs v_t_newPeople v_t_newForgetsAt v_t_newFillsAt v_t_top v_t_firstValue v_t_lastValue v_t_waiting v_t_depth v_t_acts v_t_isWinter v_t_learntNow v_t_forgottenNow v_t_heardMany v_t_its0 v_t_hasImage v_t_imageActs v_t_imageHeard r_t_rows r_t_ahead o6_0 o6_1 hz6) (cwV 0 hts gX12_days_X12_keeps rfl rfl rfl (by decide +kernel) ⟨Nat.le_of_ble_eq_true rfl, Nat.le_of_ble_eq_true rfl⟩) (gs_preV (ci := 12) hk hP hD (is := [0, 5, 6]) rfl rfl rfl rfl) rfl rfl hl.1 rfl (lv_room (Nat.le_of_ble_eq_true rfl)) dX12_days_36 ⟨Nat.zero_le _, Nat.zero_le _⟩) hP hD hS [0, 5, 6] rfl rfl rfl rfl (fun H locs hP hD hS => ?_)
      refine lv_iconst (v := 0) hx hb dX12_days_39 (by decide) ?_
      refine lv_istore_n (lv' := [(2, .int 0), (0, .ref a_t), (1, .int x1)]) hx hb dX12_days_40 rfl hl (by decide) rfl (fun ls hl => ?_)
      exact t_X12_days_41 X0 hk  hret  (h := h) _ _ _ hP hD hS (lv_sub hl [1, 2, 0] rfl)
    · replace h := gs_iff c5 h
      exact t_X12_days_29 X0 hk  hret  (h := h) _ _ _ hP hD hS (lv_sub hl [0] rfl)

set_option maxRecDepth 100000 in
theorem ggX12_mayLearn_X12_doesHave : GoodIn wsX12_mayLearn wsX12_doesHave := goodIn_r _ [5, 6, 19, 20, 21, 22, 23, 24, 25, 26, 27, 28, 29, 30, 31, 32, 33, 34, 35, 36, 37, 38, 39, 40, 41, 42, 43, 44, 45, 46, 47, 48, 49, 50, 51, 52, 53, 54, 55, 56, 57, 58, 59, 60, 61, 62, 63, 64, 65, 66, 67, 68, 69, 70, 71, 72, 73, 74, 75, 76, 77, 78, 79] rfl (by decide +kernel)
set_option maxRecDepth 100000 in
theorem gX12_mayLearn_X12_doesHave : GoodIn wsX12_mayLearn (wsV RX12 297 RX12 yX12_doesHave wsX12_doesHave) := goodIn_app (goodIn_of _ (by decide +kernel)) ggX12_mayLearn_X12_doesHave
set_option maxRecDepth 100000 in
theorem ggX12_mayLearn_X12_canTeach : GoodIn wsX12_mayLearn wsX12_canTeach := goodIn_r _ [10, 1, 2, 3, 4, 5, 6, 11, 12, 13, 14, 15, 16, 17, 18, 19, 20, 21, 22, 23, 24, 25, 26, 27, 28, 29, 30, 31, 32, 33, 34, 35, 36, 37, 38, 39, 40, 41, 42, 43, 44, 45, 46, 47, 48, 49, 50, 51, 52, 53, 54, 55, 56, 57, 58, 59, 60, 61, 62, 63, 64, 65, 66, 67, 68, 69, 70, 71, 72, 73, 74, 75, 76, 77, 78, 79] rfl (by decide +kernel)
set_option maxRecDepth 100000 in
theorem gX12_mayLearn_X12_canTeach : GoodIn wsX12_mayLearn (wsV RX12 343 RX12 yX12_canTeach wsX12_canTeach) := goodIn_app (goodIn_of _ (by decide +kernel)) ggX12_mayLearn_X12_canTeach
theorem dX12_mayLearn_0 : decode cX12_mayLearn 0 = .ok (.aload_n 0, 1) := by decide +kernel
theorem dX12_mayLearn_1 : decode cX12_mayLearn 1 = .ok (.iconst 0, 1) := by decide +kernel
theorem dX12_mayLearn_2 : decode cX12_mayLearn 2 = .ok (.iload_n 1, 1) := by decide +kernel
theorem dX12_mayLearn_3 : decode cX12_mayLearn 3 = .ok (.iload_n 2, 1) := by decide +kernel
theorem dX12_mayLearn_4 : decode cX12_mayLearn 4 = .ok (.invokevirtual 297, 3) := by decide +kernel
theorem dX12_mayLearn_7 : decode cX12_mayLearn 7 = .ok (.ifCond .ne 17, 3) := by decide +kernel
theorem dX12_mayLearn_10 : decode cX12_mayLearn 10 = .ok (.aload_n 0, 1) := by decide +kernel
theorem dX12_mayLearn_11 : decode cX12_mayLearn 11 = .ok (.iconst 0, 1) := by decide +kernel
theorem dX12_mayLearn_12 : decode cX12_mayLearn 12 = .ok (.iload_n 3, 1) := by decide +kernel
theorem dX12_mayLearn_13 : decode cX12_mayLearn 13 = .ok (.iload_n 2, 1) := by decide +kernel
theorem dX12_mayLearn_14 : decode cX12_mayLearn 14 = .ok (.invokevirtual 343, 3) := by decide +kernel
theorem dX12_mayLearn_17 : decode cX12_mayLearn 17 = .ok (.ifCond .eq 7, 3) := by decide +kernel
theorem dX12_mayLearn_20 : decode cX12_mayLearn 20 = .ok (.iconst 1, 1) := by decide +kernel
theorem dX12_mayLearn_21 : decode cX12_mayLearn 21 = .ok (.goto 4, 3) := by decide +kernel
theorem dX12_mayLearn_24 : decode cX12_mayLearn 24 = .ok (.iconst 0, 1) := by decide +kernel
theorem dX12_mayLearn_25 : decode cX12_mayLearn 25 = .ok (.ireturn, 1) := by decide +kernel
abbrev w_X12_mayLearn (E : gs_E) (a_t a_t_songLong a_t_rows a_t_firstNote a_t_wit a_t_code a_t_tape a_t_refused a_t_newSongLong a_t_newFirstNote a_t_newWit a_t_newRow a_t_readCode a_t_waits a_t_tested a_t_isTold a_t_ahead a_t_told a_t_pile a_t_common a_t_mostOf a_t_likes a_t_heard a_t_soon a_t_soonAll a_t_imageRow a_t_imageAhead a_t_imageHears : Nat) (v_t_thrown : Int32) (v_t_songs : Int32) (v_t_people : Int32) (v_t_forgetsAt : Int32) (v_t_fillsAt : Int32) (v_t_taped : Int32) (v_t_faultKind : Int32) (v_t_faultPlace : Int32) (v_t_long1 : Int32) (v_t_next0 : Int32) (v_t_sort : Int32) (v_t_place : Int32) (v_t_long0 : Int32) (v_t_value : Int32) (v_t_sign : Int32) (v_t_word : Int64) (v_t_newSongs : Int32) (v_t_newPeople : Int32) (v_t_newForgetsAt : Int32) (v_t_newFillsAt : Int32) (v_t_top : Int32) (v_t_firstValue : Int32) (v_t_lastValue : Int32) (v_t_waiting : Int32) (v_t_depth : Int32) (v_t_acts : Int32) (v_t_isWinter : Int32) (v_t_learntNow : Int32) (v_t_forgottenNow : Int32) (v_t_heardMany : Int32) (v_t_its0 : Int32) (v_t_hasImage : Int32) (v_t_imageActs : Int32) (v_t_imageHeard : Int32) (r_t_songLong : Nat → Int32) (r_t_rows : Nat → Int32) : va_W := [(a_t, .inr (12, [.int v_t_thrown, .int v_t_songs, .int v_t_people, .int v_t_forgetsAt, .int v_t_fillsAt, .ref a_t_songLong, .ref a_t_firstNote, .ref a_t_wit, .ref a_t_code, .ref a_t_tape, .int v_t_taped, .int v_t_faultKind, .int v_t_faultPlace, .ref a_t_refused, .int v_t_long1, .int v_t_next0, .int v_t_sort, .int v_t_place, .int v_t_long0, .int v_t_value, .int v_t_sign, .long v_t_word, .int v_t_newSongs, .int v_t_newPeople, .int v_t_newForgetsAt, .int v_t_newFillsAt, .int v_t_top, .int v_t_firstValue, .int v_t_lastValue, .int v_t_waiting, .int v_t_depth, .ref a_t_newSongLong, .ref a_t_newFirstNote, .ref a_t_newWit, .ref a_t_newRow, .ref a_t_readCode, .ref a_t_waits, .ref a_t_tested, .ref a_t_isTold, .ref a_t_rows, .ref a_t_ahead, .int v_t_acts, .ref a_t_told, .ref a_t_pile, .int v_t_isWinter, .int v_t_learntNow, .int v_t_forgottenNow, .ref a_t_common, .ref a_t_mostOf, .ref a_t_likes, .int v_t_heardMany, .ref a_t_heard, .ref a_t_soon, .ref a_t_soonAll, .int v_t_its0, .int v_t_hasImage, .int v_t_imageActs, .int v_t_imageHeard, .ref a_t_imageRow, .ref a_t_imageAhead, .ref a_t_imageHears])), (a_t_songLong, .inl (E.2.1, 5, .inl r_t_songLong)), (a_t_rows, .inl (E.2.1, 744, .inl r_t_rows))]
abbrev rm_X12_mayLearn : Room := { frames := 3, cells := 0, slots := 0, locals := 70 }
def f_X12_mayLearn (x1 : Int32) (x2 : Int32) (x3 : Int32) (r_t_songLong : Nat → Int32) (r_t_rows : Nat → Int32) : Option (Int32) :=
  gs_b1 (f_X12_doesHave 0 x1 x2 r_t_rows) fun r1 =>
  if r1 = 0 then
    gs_b1 (f_X12_canTeach 0 x3 x2 r_t_songLong r_t_rows) fun r3 =>
    if r3 = 0 then
      some 0
    else
      some 1
  else
    some 0
set_option maxHeartbeats 4000000 in
set_option maxRecDepth 100000 in
theorem c_X12_mayLearn (l : Launch) (E : gs_E) (a_t a_t_songLong a_t_rows a_t_firstNote a_t_wit a_t_code a_t_tape a_t_refused a_t_newSongLong a_t_newFirstNote a_t_newWit a_t_newRow a_t_readCode a_t_waits a_t_tested a_t_isTold a_t_ahead a_t_told a_t_pile a_t_common a_t_mostOf a_t_likes a_t_heard a_t_soon a_t_soonAll a_t_imageRow a_t_imageAhead a_t_imageHears : Nat) (v_t_thrown : Int32) (v_t_songs : Int32) (v_t_people : Int32) (v_t_forgetsAt : Int32) (v_t_fillsAt : Int32) (v_t_taped : Int32) (v_t_faultKind : Int32) (v_t_faultPlace : Int32) (v_t_long1 : Int32) (v_t_next0 : Int32) (v_t_sort : Int32) (v_t_place : Int32) (v_t_long0 : Int32) (v_t_value : Int32) (v_t_sign : Int32) (v_t_word : Int64) (v_t_newSongs : Int32) (v_t_newPeople : Int32) (v_t_newForgetsAt : Int32) (v_t_newFillsAt : Int32) (v_t_top : Int32) (v_t_firstValue : Int32) (v_t_lastValue : Int32) (v_t_waiting : Int32) (v_t_depth : Int32) (v_t_acts : Int32) (v_t_isWinter : Int32) (v_t_learntNow : Int32) (v_t_forgottenNow : Int32) (v_t_heardMany : Int32) (v_t_its0 : Int32) (v_t_hasImage : Int32) (v_t_imageActs : Int32) (v_t_imageHeard : Int32) (r_t_songLong : Nat → Int32) (r_t_rows : Nat → Int32) (x1 : Int32) (x2 : Int32) (x3 : Int32) (rr : Int32) (h : f_X12_mayLearn x1 x2 x3 r_t_songLong r_t_rows = some rr) : gs_MR l yX12_mayLearn wsX12_mayLearn rm_X12_mayLearn [.ref a_t, .int x1, .int x2, .int x3] E (w_X12_mayLearn E a_t a_t_songLong a_t_rows a_t_firstNote a_t_wit a_t_code a_t_tape a_t_refused a_t_newSongLong a_t_newFirstNote a_t_newWit a_t_newRow a_t_readCode a_t_waits a_t_tested a_t_isTold a_t_ahead a_t_told a_t_pile a_t_common a_t_mostOf a_t_likes a_t_heard a_t_soon a_t_soonAll a_t_imageRow a_t_imageAhead a_t_imageHears v_t_thrown v_t_songs v_t_people v_t_forgetsAt v_t_fillsAt v_t_taped v_t_faultKind v_t_faultPlace v_t_long1 v_t_next0 v_t_sort v_t_place v_t_long0 v_t_value v_t_sign v_t_word v_t_newSongs v_t_newPeople v_t_newForgetsAt v_t_newFillsAt v_t_top v_t_firstValue v_t_lastValue v_t_waiting v_t_depth v_t_acts v_t_isWinter v_t_learntNow v_t_forgottenNow v_t_heardMany v_t_its0 v_t_hasImage v_t_imageActs v_t_imageHeard r_t_songLong r_t_rows) (some (.int rr)) := by
  refine Met.ofW (cc := cX12_mayLearn) (maxL := 4) (ret := (some .boolean)) (by decide) rfl ?_
  intro p e s m args below meth c s₁ B hml hv
  obtain ⟨rfl, hP, hk, hD0⟩ := hv
  have X0 : gs_X wsX12_mayLearn cX12_mayLearn RX12 4 (some .boolean) p s m ([.ref a_t, .int x1, .int x2, .int x3] : List Value).toArray meth c := gs_X.of B hml
  obtain ⟨hx, hb, -, hown, hts, hr, hlk⟩ := id X0
  have hD := hD0
  have hret : ∀ (pc : Nat) (ls : Array Slot), narrow .boolean (.int rr) = .int rr → decode cX12_mayLearn pc = .ok (.ireturn, 1) → W p l e rm_X12_mayLearn s m ([.ref a_t, .int x1, .int x2, .int x3] : List Value).toArray below meth c s.heap [] 0 0 (MQ below (gs_QR (some (.int rr))) ([.ref a_t, .int x1, .int x2, .int x3] : List Value).toArray s 0 0 (fun _ => False)) (F0 m pc ls [.int rr]) := fun pc ls hnar hd => W.zret hx hb hr hnar (fun t ht hW => ⟨rfl, ht⟩) (fun q hq => by cases hq) hd
  have hl := lv_entry ([.ref a_t, .int x1, .int x2, .int x3]) (n := 4) (Nat.le_of_ble_eq_true rfl)
  rw [lg_entry_eq]
  generalize (lg_sl ([.ref a_t, .int x1, .int x2, .int x3]) ++ List.replicate (4 - (lg_sl ([.ref a_t, .int x1, .int x2, .int x3])).length) Slot.unset).toArray = ls at hl ⊢
  have hl : lv_has ls 4 [(0, .ref a_t), (1, .int x1), (2, .int x2), (3, .int x3)] := hl
  unfold f_X12_mayLearn at h
  refine lv_aload_n hx hb dX12_mayLearn_0 rfl (lv_at hl 0 rfl) ?_
  refine lv_iconst (v := 0) hx hb dX12_mayLearn_1 (by decide) ?_
  refine lv_iload_n hx hb dX12_mayLearn_2 rfl (lv_at hl 1 rfl) ?_
  refine lv_iload_n hx hb dX12_mayLearn_3 rfl (lv_at hl 2 rfl) ?_
  obtain ⟨r1, hz1, h⟩ := gs_b1_e h
  refine gs_backRi (va_runV (As := [.int 0, .int x1, .int x2]) (rest := []) ⟨hx, hb, hml, hown, hts⟩ (c_X12_doesHave l E a_t a_t_rows a_t_songLong a_t_firstNote a_t_wit a_t_code a_t_tape a_t_refused a_t_newSongLong a_t_newFirstNote a_t_newWit a_t_newRow a_t_readCode a_t_waits a_t_tested a_t_isTold a_t_ahead a_t_told a_t_pile a_t_common a_t_mostOf a_t_likes a_t_heard a_t_soon a_t_soonAll a_t_imageRow a_t_imageAhead a_t_imageHears v_t_thrown v_t_songs v_t_people v_t_forgetsAt v_t_fillsAt v_t_taped v_t_faultKind v_t_faultPlace v_t_long1 v_t_next0 v_t_sort v_t_place v_t_long0 v_t_value v_t_sign v_t_word v_t_newSongs v_t_newPeople v_t_newForgetsAt v_t_newFillsAt v_t_top v_t_firstValue v_t_lastValue v_t_waiting v_t_depth v_t_acts v_t_isWinter v_t_learntNow v_t_forgottenNow v_t_heardMany v_t_its0 v_t_hasImage v_t_imageActs v_t_imageHeard r_t_rows 0 x1 x2 r1 hz1) (cwV 3 hts gX12_mayLearn_X12_doesHave rfl rfl rfl (by decide +kernel) ⟨Nat.le_of_ble_eq_true rfl, Nat.le_of_ble_eq_true rfl⟩) (gs_preV (ci := 12) hk hP hD (is := [0, 2]) rfl rfl rfl rfl) rfl rfl hl.1 rfl (lv_room (Nat.le_of_ble_eq_true rfl)) dX12_mayLearn_4 ⟨Nat.zero_le _, Nat.zero_le _⟩) ?_
  refine lv_if_ne (tgt := 24) hx hb dX12_mayLearn_7 (by decide) (fun c2 => ?_) (fun c2 => ?_)
  · replace h := gs_iff c2 h
    refine lv_iconst (v := 0) hx hb dX12_mayLearn_24 (by decide) ?_
    have h := Option.some.inj h
    subst h
    exact hret _ _ rfl dX12_mayLearn_25
  · replace h := gs_ift c2 h
    refine lv_aload_n hx hb dX12_mayLearn_10 rfl (lv_at hl 0 rfl) ?_
    refine lv_iconst (v := 0) hx hb dX12_mayLearn_11 (by decide) ?_
    refine lv_iload_n hx hb dX12_mayLearn_12 rfl (lv_at hl 3 rfl) ?_
    refine lv_iload_n hx hb dX12_mayLearn_13 rfl (lv_at hl 2 rfl) ?_
    obtain ⟨r3, hz3, h⟩ := gs_b1_e h
    refine gs_backRi (va_runV (As := [.int 0, .int x3, .int x2]) (rest := []) ⟨hx, hb, hml, hown, hts⟩ (c_X12_canTeach l E a_t a_t_songLong a_t_rows a_t_firstNote a_t_wit a_t_code a_t_tape a_t_refused a_t_newSongLong a_t_newFirstNote a_t_newWit a_t_newRow a_t_readCode a_t_waits a_t_tested a_t_isTold a_t_ahead a_t_told a_t_pile a_t_common a_t_mostOf a_t_likes a_t_heard a_t_soon a_t_soonAll a_t_imageRow a_t_imageAhead a_t_imageHears v_t_thrown v_t_songs v_t_people v_t_forgetsAt v_t_fillsAt v_t_taped v_t_faultKind v_t_faultPlace v_t_long1 v_t_next0 v_t_sort v_t_place v_t_long0 v_t_value v_t_sign v_t_word v_t_newSongs v_t_newPeople v_t_newForgetsAt v_t_newFillsAt v_t_top v_t_firstValue v_t_lastValue v_t_waiting v_t_depth v_t_acts v_t_isWinter v_t_learntNow v_t_forgottenNow v_t_heardMany v_t_its0 v_t_hasImage v_t_imageActs v_t_imageHeard r_t_songLong r_t_rows 0 x3 x2 r3 hz3) (cwV 3 hts gX12_mayLearn_X12_canTeach rfl rfl rfl (by decide +kernel) ⟨Nat.le_of_ble_eq_true rfl, Nat.le_of_ble_eq_true rfl⟩) (gs_preV (ci := 12) hk hP hD (is := [0, 1, 2]) rfl rfl rfl rfl) rfl rfl hl.1 rfl (lv_room (Nat.le_of_ble_eq_true rfl)) dX12_mayLearn_14 ⟨Nat.zero_le _, Nat.zero_le _⟩) ?_
    refine lv_if_eq (tgt := 24) hx hb dX12_mayLearn_17 (by decide) (fun c4 => ?_) (fun c4 => ?_)
    · replace h := gs_ift c4 h
      refine lv_iconst (v := 0) hx hb dX12_mayLearn_24 (by decide) ?_
      have h := Option.some.inj h
      subst h
      exact hret _ _ rfl dX12_mayLearn_25
    · replace h := gs_iff c4 h
      refine lv_iconst (v := 1) hx hb dX12_mayLearn_20 (by decide) ?_
      refine lv_goto (tgt := 25) hx hb dX12_mayLearn_21 (by decide) ?_
      have h := Option.some.inj h
      subst h
      exact hret _ _ rfl dX12_mayLearn_25

set_option maxRecDepth 100000 in
theorem ggX12_learn_X12_isPerson : GoodIn wsX12_learn wsX12_isPerson := goodIn_r _ [6, 7, 8, 9, 10, 5, 11, 1, 78, 79, 80, 81, 82, 83, 84, 85, 86, 87, 88, 89, 90, 91, 92, 93, 94, 95, 96, 97, 98, 99, 100, 101, 102, 103, 104, 105, 106, 107, 108, 109, 110, 111, 112, 113, 114, 115, 116, 117, 118, 119, 120, 121, 122, 123, 124, 125, 126, 127, 128, 129, 130, 131, 132, 133, 134, 135, 136, 137, 138] rfl (by decide +kernel)
set_option maxRecDepth 100000 in
theorem gX12_learn_X12_isPerson : GoodIn wsX12_learn (wsV RX12 387 RX12 yX12_isPerson wsX12_isPerson) := goodIn_app (goodIn_of _ (by decide +kernel)) ggX12_learn_X12_isPerson
set_option maxRecDepth 100000 in
theorem ggX12_learn_X12_isSong : GoodIn wsX12_learn wsX12_isSong := goodIn_r _ [15, 16, 8, 9, 10, 5, 11, 1, 78, 79, 80, 81, 82, 83, 84, 85, 86, 87, 88, 89, 90, 91, 92, 93, 94, 95, 96, 97, 98, 99, 100, 101, 102, 103, 104, 105, 106, 107, 108, 109, 110, 111, 112, 113, 114, 115, 116, 117, 118, 119, 120, 121, 122, 123, 124, 125, 126, 127, 128, 129, 130, 131, 132, 133, 134, 135, 136, 137, 138] rfl (by decide +kernel)
set_option maxRecDepth 100000 in
theorem gX12_learn_X12_isSong : GoodIn wsX12_learn (wsV RX12 374 RX12 yX12_isSong wsX12_isSong) := goodIn_app (goodIn_of _ (by decide +kernel)) ggX12_learn_X12_isSong
set_option maxRecDepth 100000 in
theorem ggX12_learn_X12_mayLearn : GoodIn wsX12_learn wsX12_mayLearn := goodIn_r _ [20, 21, 22, 23, 5, 24, 25, 26, 27, 28, 29, 30, 31, 32, 33, 34, 35, 36, 37, 78, 79, 80, 81, 82, 83, 84, 85, 86, 87, 88, 89, 90, 91, 92, 93, 94, 95, 96, 97, 98, 99, 100, 101, 102, 103, 104, 105, 106, 107, 108, 109, 110, 111, 112, 113, 114, 115, 116, 117, 118, 119, 120, 121, 122, 123, 124, 125, 126, 127, 128, 129, 130, 131, 132, 133, 134, 135, 136, 137, 138] rfl (by decide +kernel)
set_option maxRecDepth 100000 in
theorem gX12_learn_X12_mayLearn : GoodIn wsX12_learn (wsV RX12 414 RX12 yX12_mayLearn wsX12_mayLearn) := goodIn_app (goodIn_of _ (by decide +kernel)) ggX12_learn_X12_mayLearn
set_option maxRecDepth 100000 in
theorem ggX12_learn_X12_refuses : GoodIn wsX12_learn wsX12_refuses := goodIn_r _ [41, 42, 78, 79, 80, 81, 82, 83, 84, 85, 86, 87, 88, 89, 90, 91, 92, 93, 94, 95, 96, 97, 98, 99, 100, 101, 102, 103, 104, 105, 106, 107, 108, 109, 110, 111, 112, 113, 114, 115, 116, 117, 118, 119, 120, 121, 122, 123, 124, 125, 126, 127, 128, 129, 130, 131, 132, 133, 134, 135, 136, 137, 138] rfl (by decide +kernel)
set_option maxRecDepth 100000 in
theorem gX12_learn_X12_refuses : GoodIn wsX12_learn (wsV RX12 408 RX12 yX12_refuses wsX12_refuses) := goodIn_app (goodIn_of _ (by decide +kernel)) ggX12_learn_X12_refuses
set_option maxRecDepth 100000 in
theorem ggX12_learn_X12_keeps : GoodIn wsX12_learn wsX12_keeps := goodIn_r _ [46, 47, 48, 25, 78, 79, 80, 81, 82, 83, 84, 85, 86, 87, 88, 89, 90, 91, 92, 93, 94, 95, 96, 97, 98, 99, 100, 101, 102, 103, 104, 105, 106, 107, 108, 109, 110, 111, 112, 113, 114, 115, 116, 117, 118, 119, 120, 121, 122, 123, 124, 125, 126, 127, 128, 129, 130, 131, 132, 133, 134, 135, 136, 137, 138] rfl (by decide +kernel)
set_option maxRecDepth 100000 in
theorem gX12_learn_X12_keeps : GoodIn wsX12_learn (wsV RX12 411 RX12 yX12_keeps wsX12_keeps) := goodIn_app (goodIn_of _ (by decide +kernel)) ggX12_learn_X12_keeps
set_option maxRecDepth 100000 in
theorem ggX12_learn_X12_learns : GoodIn wsX12_learn wsX12_learns := goodIn_r _ [52, 34, 25, 53, 35, 36, 5, 37, 54, 55, 56, 57, 58, 59, 60, 61, 62, 63, 64, 65, 66, 67, 68, 69, 70, 71, 72, 78, 79, 80, 81, 82, 83, 84, 85, 86, 87, 88, 89, 90, 91, 92, 93, 94, 95, 96, 97, 98, 99, 100, 101, 102, 103, 104, 105, 106, 107, 108, 109, 110, 111, 112, 113, 114, 115, 116, 117, 118, 119, 120, 121, 122, 123, 124, 125, 126, 127, 128, 129, 130, 131, 132, 133, 134, 135, 136, 137, 138] rfl (by decide +kernel)
set_option maxRecDepth 100000 in
theorem gX12_learn_X12_learns : GoodIn wsX12_learn (wsV RX12 346 RX12 yX12_learns wsX12_learns) := goodIn_app (goodIn_of _ (by decide +kernel)) ggX12_learn_X12_learns
set_option maxRecDepth 100000 in
theorem ggX12_learn_X12_likeIn : GoodIn wsX12_learn wsX12_likeIn := goodIn_r _ [76, 34, 25, 77, 35, 36, 5, 37, 78, 79, 80, 81, 82, 83, 84, 85, 86, 87, 88, 89, 90, 91, 92, 93, 94, 95, 96, 97, 98, 99, 100, 101, 102, 103, 104, 105, 106, 107, 108, 109, 110, 111, 112, 113, 114, 115, 116, 117, 118, 119, 120, 121, 122, 123, 124, 125, 126, 127, 128, 129, 130, 131, 132, 133, 134, 135, 136, 137, 138] rfl (by decide +kernel)
set_option maxRecDepth 100000 in
theorem gX12_learn_X12_likeIn : GoodIn wsX12_learn (wsV RX12 396 RX12 yX12_likeIn wsX12_likeIn) := goodIn_app (goodIn_of _ (by decide +kernel)) ggX12_learn_X12_likeIn
theorem dX12_learn_0 : decode cX12_learn 0 = .ok (.aload_n 0, 1) := by decide +kernel
theorem dX12_learn_1 : decode cX12_learn 1 = .ok (.iconst 0, 1) := by decide +kernel
theorem dX12_learn_2 : decode cX12_learn 2 = .ok (.putfield 102, 3) := by decide +kernel
theorem dX12_learn_5 : decode cX12_learn 5 = .ok (.aload_n 0, 1) := by decide +kernel
theorem dX12_learn_6 : decode cX12_learn 6 = .ok (.iload_n 1, 1) := by decide +kernel
theorem dX12_learn_7 : decode cX12_learn 7 = .ok (.invokevirtual 387, 3) := by decide +kernel
theorem dX12_learn_10 : decode cX12_learn 10 = .ok (.ifCond .eq 19, 3) := by decide +kernel
theorem dX12_learn_13 : decode cX12_learn 13 = .ok (.aload_n 0, 1) := by decide +kernel
theorem dX12_learn_14 : decode cX12_learn 14 = .ok (.iload_n 2, 1) := by decide +kernel
theorem dX12_learn_15 : decode cX12_learn 15 = .ok (.invokevirtual 374, 3) := by decide +kernel
theorem dX12_learn_18 : decode cX12_learn 18 = .ok (.ifCond .eq 11, 3) := by decide +kernel
theorem dX12_learn_21 : decode cX12_learn 21 = .ok (.aload_n 0, 1) := by decide +kernel
theorem dX12_learn_22 : decode cX12_learn 22 = .ok (.iload_n 3, 1) := by decide +kernel
theorem dX12_learn_23 : decode cX12_learn 23 = .ok (.invokevirtual 387, 3) := by decide +kernel
theorem dX12_learn_26 : decode cX12_learn 26 = .ok (.ifCond .ne 5, 3) := by decide +kernel
theorem dX12_learn_29 : decode cX12_learn 29 = .ok (.iconst 0, 1) := by decide +kernel
theorem dX12_learn_30 : decode cX12_learn 30 = .ok (.ireturn, 1) := by decide +kernel
theorem dX12_learn_31 : decode cX12_learn 31 = .ok (.aload_n 0, 1) := by decide +kernel
theorem dX12_learn_32 : decode cX12_learn 32 = .ok (.iload_n 1, 1) := by decide +kernel
theorem dX12_learn_33 : decode cX12_learn 33 = .ok (.iload_n 2, 1) := by decide +kernel
theorem dX12_learn_34 : decode cX12_learn 34 = .ok (.iload_n 3, 1) := by decide +kernel
theorem dX12_learn_35 : decode cX12_learn 35 = .ok (.invokevirtual 414, 3) := by decide +kernel
theorem dX12_learn_38 : decode cX12_learn 38 = .ok (.ifCond .ne 9, 3) := by decide +kernel
theorem dX12_learn_41 : decode cX12_learn 41 = .ok (.aload_n 0, 1) := by decide +kernel
theorem dX12_learn_42 : decode cX12_learn 42 = .ok (.iconst 1, 1) := by decide +kernel
theorem dX12_learn_43 : decode cX12_learn 43 = .ok (.invokevirtual 408, 3) := by decide +kernel
theorem dX12_learn_46 : decode cX12_learn 46 = .ok (.ireturn, 1) := by decide +kernel
theorem dX12_learn_47 : decode cX12_learn 47 = .ok (.aload_n 0, 1) := by decide +kernel
theorem dX12_learn_48 : decode cX12_learn 48 = .ok (.invokevirtual 411, 3) := by decide +kernel
theorem dX12_learn_51 : decode cX12_learn 51 = .ok (.aload_n 0, 1) := by decide +kernel
theorem dX12_learn_52 : decode cX12_learn 52 = .ok (.iconst 0, 1) := by decide +kernel
theorem dX12_learn_53 : decode cX12_learn 53 = .ok (.iload_n 1, 1) := by decide +kernel
theorem dX12_learn_54 : decode cX12_learn 54 = .ok (.iload_n 2, 1) := by decide +kernel
theorem dX12_learn_55 : decode cX12_learn 55 = .ok (.iload_n 3, 1) := by decide +kernel
theorem dX12_learn_56 : decode cX12_learn 56 = .ok (.invokevirtual 346, 3) := by decide +kernel
theorem dX12_learn_59 : decode cX12_learn 59 = .ok (.aload_n 0, 1) := by decide +kernel
theorem dX12_learn_60 : decode cX12_learn 60 = .ok (.iconst 0, 1) := by decide +kernel
theorem dX12_learn_61 : decode cX12_learn 61 = .ok (.iload_n 1, 1) := by decide +kernel
theorem dX12_learn_62 : decode cX12_learn 62 = .ok (.iload_n 2, 1) := by decide +kernel
theorem dX12_learn_63 : decode cX12_learn 63 = .ok (.invokevirtual 396, 3) := by decide +kernel
theorem dX12_learn_66 : decode cX12_learn 66 = .ok (.ireturn, 1) := by decide +kernel
abbrev w_X12_learn (E : gs_E) (a_t a_t_songLong a_t_firstNote a_t_wit a_t_code a_t_refused a_t_rows a_t_ahead a_t_told a_t_pile a_t_tape a_t_newSongLong a_t_newFirstNote a_t_newWit a_t_newRow a_t_readCode a_t_waits a_t_tested a_t_isTold a_t_common a_t_mostOf a_t_likes a_t_heard a_t_soon a_t_soonAll a_t_imageRow a_t_imageAhead a_t_imageHears : Nat) (v_t_thrown : Int32) (v_t_songs : Int32) (v_t_people : Int32) (v_t_forgetsAt : Int32) (v_t_fillsAt : Int32) (v_t_taped : Int32) (v_t_faultKind : Int32) (v_t_faultPlace : Int32) (v_t_long1 : Int32) (v_t_next0 : Int32) (v_t_sort : Int32) (v_t_place : Int32) (v_t_long0 : Int32) (v_t_value : Int32) (v_t_sign : Int32) (v_t_word : Int64) (v_t_newSongs : Int32) (v_t_newPeople : Int32) (v_t_newForgetsAt : Int32) (v_t_newFillsAt : Int32) (v_t_top : Int32) (v_t_firstValue : Int32) (v_t_lastValue : Int32) (v_t_waiting : Int32) (v_t_depth : Int32) (v_t_acts : Int32) (v_t_isWinter : Int32) (v_t_learntNow : Int32) (v_t_forgottenNow : Int32) (v_t_heardMany : Int32) (v_t_its0 : Int32) (v_t_hasImage : Int32) (v_t_imageActs : Int32) (v_t_imageHeard : Int32) (r_t_songLong : Nat → Int32) (r_t_firstNote : Nat → Int32) (r_t_wit : Nat → Int32) (r_t_code : Nat → Int32) (r_t_refused : Nat → Int32) (r_t_rows : Nat → Int32) (r_t_ahead : Nat → Int32) (r_t_told : Nat → Int32) (r_t_pile : Nat → Int32) : va_W := [(a_t, .inr (12, [.int v_t_thrown, .int v_t_songs, .int v_t_people, .int v_t_forgetsAt, .int v_t_fillsAt, .ref a_t_songLong, .ref a_t_firstNote, .ref a_t_wit, .ref a_t_code, .ref a_t_tape, .int v_t_taped, .int v_t_faultKind, .int v_t_faultPlace, .ref a_t_refused, .int v_t_long1, .int v_t_next0, .int v_t_sort, .int v_t_place, .int v_t_long0, .int v_t_value, .int v_t_sign, .long v_t_word, .int v_t_newSongs, .int v_t_newPeople, .int v_t_newForgetsAt, .int v_t_newFillsAt, .int v_t_top, .int v_t_firstValue, .int v_t_lastValue, .int v_t_waiting, .int v_t_depth, .ref a_t_newSongLong, .ref a_t_newFirstNote, .ref a_t_newWit, .ref a_t_newRow, .ref a_t_readCode, .ref a_t_waits, .ref a_t_tested, .ref a_t_isTold, .ref a_t_rows, .ref a_t_ahead, .int v_t_acts, .ref a_t_told, .ref a_t_pile, .int v_t_isWinter, .int v_t_learntNow, .int v_t_forgottenNow, .ref a_t_common, .ref a_t_mostOf, .ref a_t_likes, .int v_t_heardMany, .ref a_t_heard, .ref a_t_soon, .ref a_t_soonAll, .int v_t_its0, .int v_t_hasImage, .int v_t_imageActs, .int v_t_imageHeard, .ref a_t_imageRow, .ref a_t_imageAhead, .ref a_t_imageHears])), (a_t_songLong, .inl (E.2.1, 5, .inl r_t_songLong)), (a_t_firstNote, .inl (E.2.1, 40, .inl r_t_firstNote)), (a_t_wit, .inl (E.2.1, 7, .inl r_t_wit)), (a_t_code, .inl (E.2.1, 1400, .inl r_t_code)), (a_t_refused, .inl (E.2.1, 3, .inl r_t_refused)), (a_t_rows, .inl (E.2.1, 744, .inl r_t_rows)), (a_t_ahead, .inl (E.2.1, 14880, .inl r_t_ahead)), (a_t_told, .inl (E.2.1, 9, .inl r_t_told)), (a_t_pile, .inl (E.2.1, 950, .inl r_t_pile))]
abbrev rm_X12_learn : Room := { frames := 4, cells := 0, slots := 0, locals := 99 }
def f_X12_learn (x1 : Int32) (x2 : Int32) (x3 : Int32) (v_t_thrown : Int32) (v_t_songs : Int32) (v_t_people : Int32) (v_t_fillsAt : Int32) (v_t_acts : Int32) (v_t_learntNow : Int32) (r_t_songLong : Nat → Int32) (r_t_firstNote : Nat → Int32) (r_t_wit : Nat → Int32) (r_t_code : Nat → Int32) (r_t_refused : Nat → Int32) (r_t_rows : Nat → Int32) (r_t_ahead : Nat → Int32) (r_t_told : Nat → Int32) (r_t_pile : Nat → Int32) : Option (Int32 × Int32 × Int32 × Int32 × (Nat → Int32) × (Nat → Int32) × (Nat → Int32) × (Nat → Int32) × (Nat → Int32)) :=
  gs_b2 (f_X12_isPerson x1 0 v_t_people) fun r1 o1_0 =>
  if r1 = 0 then
    some (0, o1_0, v_t_acts, v_t_learntNow, r_t_refused, r_t_rows, r_t_ahead, r_t_told, r_t_pile)
  else
    gs_b2 (f_X12_isSong x2 o1_0 v_t_songs) fun r3 o3_0 =>
    if r3 = 0 then
      some (0, o3_0, v_t_acts, v_t_learntNow, r_t_refused, r_t_rows, r_t_ahead, r_t_told, r_t_pile)
    else
      gs_b2 (f_X12_isPerson x3 o3_0 v_t_people) fun r5 o5_0 =>
      if r5 = 0 then
        some (0, o5_0, v_t_acts, v_t_learntNow, r_t_refused, r_t_rows, r_t_ahead, r_t_told, r_t_pile)
      else
        gs_b1 (f_X12_mayLearn x1 x2 x3 r_t_songLong r_t_rows) fun r7 =>
        if r7 = 0 then
          gs_b2 (f_X12_refuses 1 r_t_refused) fun r12 o12_0 =>
          some (r12, o5_0, v_t_acts, v_t_learntNow, o12_0, r_t_rows, r_t_ahead, r_t_told, r_t_pile)
        else
          gs_b2 (f_X12_keeps v_t_acts r_t_rows r_t_ahead) fun o9_0 o9_1 =>
          gs_b4 (f_X12_learns 0 x1 x2 x3 v_t_fillsAt v_t_learntNow r_t_songLong r_t_wit r_t_code r_t_rows r_t_told r_t_pile) fun o10_0 o10_1 o10_2 o10_3 =>
          gs_b1 (f_X12_likeIn 0 x1 x2 r_t_songLong r_t_firstNote o10_1) fun r11 =>
          some (r11, o5_0, o9_0, o10_0, r_t_refused, o10_1, o9_1, o10_2, o10_3)
set_option maxHeartbeats 4000000 in
set_option maxRecDepth 100000 in
theorem c_X12_learn (l : Launch) (E : gs_E) (a_t a_t_songLong a_t_firstNote a_t_wit a_t_code a_t_refused a_t_rows a_t_ahead a_t_told a_t_pile a_t_tape a_t_newSongLong a_t_newFirstNote a_t_newWit a_t_newRow a_t_readCode a_t_waits a_t_tested a_t_isTold a_t_common a_t_mostOf a_t_likes a_t_heard a_t_soon a_t_soonAll a_t_imageRow a_t_imageAhead a_t_imageHears : Nat) (v_t_thrown : Int32) (v_t_songs : Int32) (v_t_people : Int32) (v_t_forgetsAt : Int32) (v_t_fillsAt : Int32) (v_t_taped : Int32) (v_t_faultKind : Int32) (v_t_faultPlace : Int32) (v_t_long1 : Int32) (v_t_next0 : Int32) (v_t_sort : Int32) (v_t_place : Int32) (v_t_long0 : Int32) (v_t_value : Int32) (v_t_sign : Int32) (v_t_word : Int64) (v_t_newSongs : Int32) (v_t_newPeople : Int32) (v_t_newForgetsAt : Int32) (v_t_newFillsAt : Int32) (v_t_top : Int32) (v_t_firstValue : Int32) (v_t_lastValue : Int32) (v_t_waiting : Int32) (v_t_depth : Int32) (v_t_acts : Int32) (v_t_isWinter : Int32) (v_t_learntNow : Int32) (v_t_forgottenNow : Int32) (v_t_heardMany : Int32) (v_t_its0 : Int32) (v_t_hasImage : Int32) (v_t_imageActs : Int32) (v_t_imageHeard : Int32) (r_t_songLong : Nat → Int32) (r_t_firstNote : Nat → Int32) (r_t_wit : Nat → Int32) (r_t_code : Nat → Int32) (r_t_refused : Nat → Int32) (r_t_rows : Nat → Int32) (r_t_ahead : Nat → Int32) (r_t_told : Nat → Int32) (r_t_pile : Nat → Int32) (x1 : Int32) (x2 : Int32) (x3 : Int32) (rr : Int32) (o_t_thrown : Int32) (o_t_acts : Int32) (o_t_learntNow : Int32) (o_t_refused : Nat → Int32) (o_t_rows : Nat → Int32) (o_t_ahead : Nat → Int32) (o_t_told : Nat → Int32) (o_t_pile : Nat → Int32) (h : f_X12_learn x1 x2 x3 v_t_thrown v_t_songs v_t_people v_t_fillsAt v_t_acts v_t_learntNow r_t_songLong r_t_firstNote r_t_wit r_t_code r_t_refused r_t_rows r_t_ahead r_t_told r_t_pile = some (rr, o_t_thrown, o_t_acts, o_t_learntNow, o_t_refused, o_t_rows, o_t_ahead, o_t_told, o_t_pile)) : gs_MW l yX12_learn wsX12_learn rm_X12_learn [.ref a_t, .int x1, .int x2, .int x3] E (w_X12_learn E a_t a_t_songLong a_t_firstNote a_t_wit a_t_code a_t_refused a_t_rows a_t_ahead a_t_told a_t_pile a_t_tape a_t_newSongLong a_t_newFirstNote a_t_newWit a_t_newRow a_t_readCode a_t_waits a_t_tested a_t_isTold a_t_common a_t_mostOf a_t_likes a_t_heard a_t_soon a_t_soonAll a_t_imageRow a_t_imageAhead a_t_imageHears v_t_thrown v_t_songs v_t_people v_t_forgetsAt v_t_fillsAt v_t_taped v_t_faultKind v_t_faultPlace v_t_long1 v_t_next0 v_t_sort v_t_place v_t_long0 v_t_value v_t_sign v_t_word v_t_newSongs v_t_newPeople v_t_newForgetsAt v_t_newFillsAt v_t_top v_t_firstValue v_t_lastValue v_t_waiting v_t_depth v_t_acts v_t_isWinter v_t_learntNow v_t_forgottenNow v_t_heardMany v_t_its0 v_t_hasImage v_t_imageActs v_t_imageHeard r_t_songLong r_t_firstNote r_t_wit r_t_code r_t_refused r_t_rows r_t_ahead r_t_told r_t_pile) (w_X12_learn E a_t a_t_songLong a_t_firstNote a_t_wit a_t_code a_t_refused a_t_rows a_t_ahead a_t_told a_t_pile a_t_tape a_t_newSongLong a_t_newFirstNote a_t_newWit a_t_newRow a_t_readCode a_t_waits a_t_tested a_t_isTold a_t_common a_t_mostOf a_t_likes a_t_heard a_t_soon a_t_soonAll a_t_imageRow a_t_imageAhead a_t_imageHears o_t_thrown v_t_songs v_t_people v_t_forgetsAt v_t_fillsAt v_t_taped v_t_faultKind v_t_faultPlace v_t_long1 v_t_next0 v_t_sort v_t_place v_t_long0 v_t_value v_t_sign v_t_word v_t_newSongs v_t_newPeople v_t_newForgetsAt v_t_newFillsAt v_t_top v_t_firstValue v_t_lastValue v_t_waiting v_t_depth o_t_acts v_t_isWinter o_t_learntNow v_t_forgottenNow v_t_heardMany v_t_its0 v_t_hasImage v_t_imageActs v_t_imageHeard r_t_songLong r_t_firstNote r_t_wit r_t_code o_t_refused o_t_rows o_t_ahead o_t_told o_t_pile) (some (.int rr)) := by
  refine Met.ofW (cc := cX12_learn) (maxL := 4) (ret := (some .int)) (by decide) rfl ?_
  intro p e s m args below meth c s₁ B hml hv
  obtain ⟨rfl, hP, hk, hD0⟩ := hv
  have X0 : gs_X wsX12_learn cX12_learn RX12 4 (some .int) p s m ([.ref a_t, .int x1, .int x2, .int x3] : List Value).toArray meth c := gs_X.of B hml
  obtain ⟨hx, hb, -, hown, hts, hr, hlk⟩ := id X0
  have hD := (gs_D_self hD0)
  generalize hAe : gs_w (w_X12_learn E a_t a_t_songLong a_t_firstNote a_t_wit a_t_code a_t_refused a_t_rows a_t_ahead a_t_told a_t_pile a_t_tape a_t_newSongLong a_t_newFirstNote a_t_newWit a_t_newRow a_t_readCode a_t_waits a_t_tested a_t_isTold a_t_common a_t_mostOf a_t_likes a_t_heard a_t_soon a_t_soonAll a_t_imageRow a_t_imageAhead a_t_imageHears v_t_thrown v_t_songs v_t_people v_t_forgetsAt v_t_fillsAt v_t_taped v_t_faultKind v_t_faultPlace v_t_long1 v_t_next0 v_t_sort v_t_place v_t_long0 v_t_value v_t_sign v_t_word v_t_newSongs v_t_newPeople v_t_newForgetsAt v_t_newFillsAt v_t_top v_t_firstValue v_t_lastValue v_t_waiting v_t_depth v_t_acts v_t_isWinter v_t_learntNow v_t_forgottenNow v_t_heardMany v_t_its0 v_t_hasImage v_t_imageActs v_t_imageHeard r_t_songLong r_t_firstNote r_t_wit r_t_code r_t_refused r_t_rows r_t_ahead r_t_told r_t_pile) = A at hD ⊢
  have hS : va_S A s.heap s.heap [] := va_S.rf
  have hret : ∀ (H : Heap) (locs : List Loc) (pc : Nat) (ls : Array Slot), va_P E.1 vwCl (w_X12_learn E a_t a_t_songLong a_t_firstNote a_t_wit a_t_code a_t_refused a_t_rows a_t_ahead a_t_told a_t_pile a_t_tape a_t_newSongLong a_t_newFirstNote a_t_newWit a_t_newRow a_t_readCode a_t_waits a_t_tested a_t_isTold a_t_common a_t_mostOf a_t_likes a_t_heard a_t_soon a_t_soonAll a_t_imageRow a_t_imageAhead a_t_imageHears o_t_thrown v_t_songs v_t_people v_t_forgetsAt v_t_fillsAt v_t_taped v_t_faultKind v_t_faultPlace v_t_long1 v_t_next0 v_t_sort v_t_place v_t_long0 v_t_value v_t_sign v_t_word v_t_newSongs v_t_newPeople v_t_newForgetsAt v_t_newFillsAt v_t_top v_t_firstValue v_t_lastValue v_t_waiting v_t_depth o_t_acts v_t_isWinter o_t_learntNow v_t_forgottenNow v_t_heardMany v_t_its0 v_t_hasImage v_t_imageActs v_t_imageHeard r_t_songLong r_t_firstNote r_t_wit r_t_code o_t_refused o_t_rows o_t_ahead o_t_told o_t_pile) H → va_S A s.heap H locs → decode cX12_learn pc = .ok (.ireturn, 1) → W p l e rm_X12_learn s m ([.ref a_t, .int x1, .int x2, .int x3] : List Value).toArray below meth c H locs 0 0 (MQ below (gs_QWA E A (w_X12_learn E a_t a_t_songLong a_t_firstNote a_t_wit a_t_code a_t_refused a_t_rows a_t_ahead a_t_told a_t_pile a_t_tape a_t_newSongLong a_t_newFirstNote a_t_newWit a_t_newRow a_t_readCode a_t_waits a_t_tested a_t_isTold a_t_common a_t_mostOf a_t_likes a_t_heard a_t_soon a_t_soonAll a_t_imageRow a_t_imageAhead a_t_imageHears o_t_thrown v_t_songs v_t_people v_t_forgetsAt v_t_fillsAt v_t_taped v_t_faultKind v_t_faultPlace v_t_long1 v_t_next0 v_t_sort v_t_place v_t_long0 v_t_value v_t_sign v_t_word v_t_newSongs v_t_newPeople v_t_newForgetsAt v_t_newFillsAt v_t_top v_t_firstValue v_t_lastValue v_t_waiting v_t_depth o_t_acts v_t_isWinter o_t_learntNow v_t_forgottenNow v_t_heardMany v_t_its0 v_t_hasImage v_t_imageActs v_t_imageHeard r_t_songLong r_t_firstNote r_t_wit r_t_code o_t_refused o_t_rows o_t_ahead o_t_told o_t_pile) (some (.int rr))) ([.ref a_t, .int x1, .int x2, .int x3] : List Value).toArray s 0 0 A) (F0 m pc ls [.int rr]) := fun H locs pc ls hP hS hd => W.iret hx hb hr (fun t ht hW => ⟨rfl, by rw [ht]; exact hP, hS.F ht⟩) hS.2.2 hd
  have hl := lv_entry ([.ref a_t, .int x1, .int x2, .int x3]) (n := 4) (Nat.le_of_ble_eq_true rfl)
  rw [lg_entry_eq]
  generalize (lg_sl ([.ref a_t, .int x1, .int x2, .int x3]) ++ List.replicate (4 - (lg_sl ([.ref a_t, .int x1, .int x2, .int x3])).length) Slot.unset).toArray = ls at hl ⊢
  have hl : lv_has ls 4 [(0, .ref a_t), (1, .int x1), (2, .int x2), (3, .int x3)] := hl
  unfold f_X12_learn at h
  refine lv_aload_n hx hb dX12_learn_0 rfl (lv_at hl 0 rfl) ?_
  refine lv_iconst (v := 0) hx hb dX12_learn_1 (by decide) ?_
  refine va_put (D := E.1) (ci := 12) (v := .int 0) (ty := .int) (C := RX12) (T := TX12) (N := 61) hx hb hts (fun _ h => (List.mem_cons_of_mem _ (List.mem_append_right _ h))) tyX12 tyX12_ok nmX12 hown hk.1 hP hD hS 0 rfl rfl 0 (by decide) (hts (.fieldLink RX12 102 "GapSongsModel" "thrown" "I") (List.mem_cons_of_mem _ (List.mem_append_left _ (List.mem_append_left _ (List.mem_of_getElem? (i := 0) rfl))))) (fun _ h9 => h9) rfl (by decide +kernel) rfl rfl (Nat.le_of_ble_eq_true rfl) dX12_learn_2 (fun H locs hP hD hS => ?_)
  have hP : va_P E.1 vwCl (w_X12_learn E a_t a_t_songLong a_t_firstNote a_t_wit a_t_code a_t_refused a_t_rows a_t_ahead a_t_told a_t_pile a_t_tape a_t_newSongLong a_t_newFirstNote a_t_newWit a_t_newRow a_t_readCode a_t_waits a_t_tested a_t_isTold a_t_common a_t_mostOf a_t_likes a_t_heard a_t_soon a_t_soonAll a_t_imageRow a_t_imageAhead a_t_imageHears 0 v_t_songs v_t_people v_t_forgetsAt v_t_fillsAt v_t_taped v_t_faultKind v_t_faultPlace v_t_long1 v_t_next0 v_t_sort v_t_place v_t_long0 v_t_value v_t_sign v_t_word v_t_newSongs v_t_newPeople v_t_newForgetsAt v_t_newFillsAt v_t_top v_t_firstValue v_t_lastValue v_t_waiting v_t_depth v_t_acts v_t_isWinter v_t_learntNow v_t_forgottenNow v_t_heardMany v_t_its0 v_t_hasImage v_t_imageActs v_t_imageHeard r_t_songLong r_t_firstNote r_t_wit r_t_code r_t_refused r_t_rows r_t_ahead r_t_told r_t_pile) H := hP
  have hD : va_D A (w_X12_learn E a_t a_t_songLong a_t_firstNote a_t_wit a_t_code a_t_refused a_t_rows a_t_ahead a_t_told a_t_pile a_t_tape a_t_newSongLong a_t_newFirstNote a_t_newWit a_t_newRow a_t_readCode a_t_waits a_t_tested a_t_isTold a_t_common a_t_mostOf a_t_likes a_t_heard a_t_soon a_t_soonAll a_t_imageRow a_t_imageAhead a_t_imageHears 0 v_t_songs v_t_people v_t_forgetsAt v_t_fillsAt v_t_taped v_t_faultKind v_t_faultPlace v_t_long1 v_t_next0 v_t_sort v_t_place v_t_long0 v_t_value v_t_sign v_t_word v_t_newSongs v_t_newPeople v_t_newForgetsAt v_t_newFillsAt v_t_top v_t_firstValue v_t_lastValue v_t_waiting v_t_depth v_t_acts v_t_isWinter v_t_learntNow v_t_forgottenNow v_t_heardMany v_t_its0 v_t_hasImage v_t_imageActs v_t_imageHeard r_t_songLong r_t_firstNote r_t_wit r_t_code r_t_refused r_t_rows r_t_ahead r_t_told r_t_pile) := hD
  refine lv_aload_n hx hb dX12_learn_5 rfl (lv_at hl 0 rfl) ?_
  refine lv_iload_n hx hb dX12_learn_6 rfl (lv_at hl 1 rfl) ?_
  obtain ⟨r1, o1_0, hz1, h⟩ := gs_b2_e h
  refine gs_backWi (ws1 := (w_X12_learn E a_t a_t_songLong a_t_firstNote a_t_wit a_t_code a_t_refused a_t_rows a_t_ahead a_t_told a_t_pile a_t_tape a_t_newSongLong a_t_newFirstNote a_t_newWit a_t_newRow a_t_readCode a_t_waits a_t_tested a_t_isTold a_t_common a_t_mostOf a_t_likes a_t_heard a_t_soon a_t_soonAll a_t_imageRow a_t_imageAhead a_t_imageHears o1_0 v_t_songs v_t_people v_t_forgetsAt v_t_fillsAt v_t_taped v_t_faultKind v_t_faultPlace v_t_long1 v_t_next0 v_t_sort v_t_place v_t_long0 v_t_value v_t_sign v_t_word v_t_newSongs v_t_newPeople v_t_newForgetsAt v_t_newFillsAt v_t_top v_t_firstValue v_t_lastValue v_t_waiting v_t_depth v_t_acts v_t_isWinter v_t_learntNow v_t_forgottenNow v_t_heardMany v_t_its0 v_t_hasImage v_t_imageActs v_t_imageHeard r_t_songLong r_t_firstNote r_t_wit r_t_code r_t_refused r_t_rows r_t_ahead r_t_told r_t_pile)) (va_runV (As := [.int x1]) (rest := []) ⟨hx, hb, hml, hown, hts⟩ (c_X12_isPerson l E a_t a_t_songLong a_t_firstNote a_t_wit a_t_code a_t_tape a_t_refused a_t_newSongLong a_t_newFirstNote a_t_newWit a_t_newRow a_t_readCode a_t_waits a_t_tested a_t_isTold a_t_rows a_t_ahead a_t_told a_t_pile a_t_common a_t_mostOf a_t_likes a_t_heard a_t_soon a_t_soonAll a_t_imageRow a_t_imageAhead a_t_imageHears 0 v_t_songs v_t_people v_t_forgetsAt v_t_fillsAt v_t_taped v_t_faultKind v_t_faultPlace v_t_long1 v_t_next0 v_t_sort v_t_place v_t_long0 v_t_value v_t_sign v_t_word v_t_newSongs v_t_newPeople v_t_newForgetsAt v_t_newFillsAt v_t_top v_t_firstValue v_t_lastValue v_t_waiting v_t_depth v_t_acts v_t_isWinter v_t_learntNow v_t_forgottenNow v_t_heardMany v_t_its0 v_t_hasImage v_t_imageActs v_t_imageHeard x1 r1 o1_0 hz1) (cwV 1 hts gX12_learn_X12_isPerson rfl rfl rfl (by decide +kernel) ⟨Nat.le_of_ble_eq_true rfl, Nat.le_of_ble_eq_true rfl⟩) (gs_preV (ci := 12) hk hP hD (is := [0]) rfl rfl rfl rfl) rfl rfl hl.1 rfl (lv_room (Nat.le_of_ble_eq_true rfl)) dX12_learn_7 ⟨Nat.zero_le _, Nat.zero_le _⟩) hP hD hS [0] rfl rfl rfl rfl (fun H locs hP hD hS => ?_)
  refine lv_if_eq (tgt := 29) hx hb dX12_learn_10 (by decide) (fun c2 => ?_) (fun c2 => ?_)
  · replace h := gs_ift c2 h
    refine lv_iconst (v := 0) hx hb dX12_learn_29 (by decide) ?_
    have h := Option.some.inj h
    obtain ⟨w0, h⟩ := Prod.mk.inj h
    obtain ⟨w1, h⟩ := Prod.mk.inj h
    obtain ⟨w2, h⟩ := Prod.mk.inj h
    obtain ⟨w3, h⟩ := Prod.mk.inj h
    obtain ⟨w4, h⟩ := Prod.mk.inj h
    obtain ⟨w5, h⟩ := Prod.mk.inj h
    obtain ⟨w6, h⟩ := Prod.mk.inj h
    obtain ⟨w7, h⟩ := Prod.mk.inj h
    subst h
    subst w0
    subst w1
    subst w2
    subst w3
    subst w4
    subst w5
    subst w6
    subst w7
    exact hret _ _ _ _ hP hS dX12_learn_30
  · replace h := gs_iff c2 h
    refine lv_aload_n hx hb dX12_learn_13 rfl (lv_at hl 0 rfl) ?_
    refine lv_iload_n hx hb dX12_learn_14 rfl (lv_at hl 2 rfl) ?_
    obtain ⟨r3, o3_0, hz3, h⟩ := gs_b2_e h
    refine gs_backWi (ws1 := (w_X12_learn E a_t a_t_songLong a_t_firstNote a_t_wit a_t_code a_t_refused a_t_rows a_t_ahead a_t_told a_t_pile a_t_tape a_t_newSongLong a_t_newFirstNote a_t_newWit a_t_newRow a_t_readCode a_t_waits a_t_tested a_t_isTold a_t_common a_t_mostOf a_t_likes a_t_heard a_t_soon a_t_soonAll a_t_imageRow a_t_imageAhead a_t_imageHears o3_0 v_t_songs v_t_people v_t_forgetsAt v_t_fillsAt v_t_taped v_t_faultKind v_t_faultPlace v_t_long1 v_t_next0 v_t_sort v_t_place v_t_long0 v_t_value v_t_sign v_t_word v_t_newSongs v_t_newPeople v_t_newForgetsAt v_t_newFillsAt v_t_top v_t_firstValue v_t_lastValue v_t_waiting v_t_depth v_t_acts v_t_isWinter v_t_learntNow v_t_forgottenNow v_t_heardMany v_t_its0 v_t_hasImage v_t_imageActs v_t_imageHeard r_t_songLong r_t_firstNote r_t_wit r_t_code r_t_refused r_t_rows r_t_ahead r_t_told r_t_pile)) (va_runV (As := [.int x2]) (rest := []) ⟨hx, hb, hml, hown, hts⟩ (c_X12_isSong l E a_t a_t_songLong a_t_firstNote a_t_wit a_t_code a_t_tape a_t_refused a_t_newSongLong a_t_newFirstNote a_t_newWit a_t_newRow a_t_readCode a_t_waits a_t_tested a_t_isTold a_t_rows a_t_ahead a_t_told a_t_pile a_t_common a_t_mostOf a_t_likes a_t_heard a_t_soon a_t_soonAll a_t_imageRow a_t_imageAhead a_t_imageHears o1_0 v_t_songs v_t_people v_t_forgetsAt v_t_fillsAt v_t_taped v_t_faultKind v_t_faultPlace v_t_long1 v_t_next0 v_t_sort v_t_place v_t_long0 v_t_value v_t_sign v_t_word v_t_newSongs v_t_newPeople v_t_newForgetsAt v_t_newFillsAt v_t_top v_t_firstValue v_t_lastValue v_t_waiting v_t_depth v_t_acts v_t_isWinter v_t_learntNow v_t_forgottenNow v_t_heardMany v_t_its0 v_t_hasImage v_t_imageActs v_t_imageHeard x2 r3 o3_0 hz3) (cwV 1 hts gX12_learn_X12_isSong rfl rfl rfl (by decide +kernel) ⟨Nat.le_of_ble_eq_true rfl, Nat.le_of_ble_eq_true rfl⟩) (gs_preV (ci := 12) hk hP hD (is := [0]) rfl rfl rfl rfl) rfl rfl hl.1 rfl (lv_room (Nat.le_of_ble_eq_true rfl)) dX12_learn_15 ⟨Nat.zero_le _, Nat.zero_le _⟩) hP hD hS [0] rfl rfl rfl rfl (fun H locs hP hD hS => ?_)
    refine lv_if_eq (tgt := 29) hx hb dX12_learn_18 (by decide) (fun c4 => ?_) (fun c4 => ?_)
    · replace h := gs_ift c4 h
      refine lv_iconst (v := 0) hx hb dX12_learn_29 (by decide) ?_
      have h := Option.some.inj h
      obtain ⟨w0, h⟩ := Prod.mk.inj h
      obtain ⟨w1, h⟩ := Prod.mk.inj h
      obtain ⟨w2, h⟩ := Prod.mk.inj h
      obtain ⟨w3, h⟩ := Prod.mk.inj h
      obtain ⟨w4, h⟩ := Prod.mk.inj h
      obtain ⟨w5, h⟩ := Prod.mk.inj h
      obtain ⟨w6, h⟩ := Prod.mk.inj h
      obtain ⟨w7, h⟩ := Prod.mk.inj h
      subst h
      subst w0
      subst w1
      subst w2
      subst w3
      subst w4
      subst w5
      subst w6
      subst w7
      exact hret _ _ _ _ hP hS dX12_learn_30
    · replace h := gs_iff c4 h
      refine lv_aload_n hx hb dX12_learn_21 rfl (lv_at hl 0 rfl) ?_
      refine lv_iload_n hx hb dX12_learn_22 rfl (lv_at hl 3 rfl) ?_
      obtain ⟨r5, o5_0, hz5, h⟩ := gs_b2_e h
      refine gs_backWi (ws1 := (w_X12_learn E a_t a_t_songLong a_t_firstNote a_t_wit a_t_code a_t_refused a_t_rows a_t_ahead a_t_told a_t_pile a_t_tape a_t_newSongLong a_t_newFirstNote a_t_newWit a_t_newRow a_t_readCode a_t_waits a_t_tested a_t_isTold a_t_common a_t_mostOf a_t_likes a_t_heard a_t_soon a_t_soonAll a_t_imageRow a_t_imageAhead a_t_imageHears o5_0 v_t_songs v_t_people v_t_forgetsAt v_t_fillsAt v_t_taped v_t_faultKind v_t_faultPlace v_t_long1 v_t_next0 v_t_sort v_t_place v_t_long0 v_t_value v_t_sign v_t_word v_t_newSongs v_t_newPeople v_t_newForgetsAt v_t_newFillsAt v_t_top v_t_firstValue v_t_lastValue v_t_waiting v_t_depth v_t_acts v_t_isWinter v_t_learntNow v_t_forgottenNow v_t_heardMany v_t_its0 v_t_hasImage v_t_imageActs v_t_imageHeard r_t_songLong r_t_firstNote r_t_wit r_t_code r_t_refused r_t_rows r_t_ahead r_t_told r_t_pile)) (va_runV (As := [.int x3]) (rest := []) ⟨hx, hb, hml, hown, hts⟩ (c_X12_isPerson l E a_t a_t_songLong a_t_firstNote a_t_wit a_t_code a_t_tape a_t_refused a_t_newSongLong a_t_newFirstNote a_t_newWit a_t_newRow a_t_readCode a_t_waits a_t_tested a_t_isTold a_t_rows a_t_ahead a_t_told a_t_pile a_t_common a_t_mostOf a_t_likes a_t_heard a_t_soon a_t_soonAll a_t_imageRow a_t_imageAhead a_t_imageHears o3_0 v_t_songs v_t_people v_t_forgetsAt v_t_fillsAt v_t_taped v_t_faultKind v_t_faultPlace v_t_long1 v_t_next0 v_t_sort v_t_place v_t_long0 v_t_value v_t_sign v_t_word v_t_newSongs v_t_newPeople v_t_newForgetsAt v_t_newFillsAt v_t_top v_t_firstValue v_t_lastValue v_t_waiting v_t_depth v_t_acts v_t_isWinter v_t_learntNow v_t_forgottenNow v_t_heardMany v_t_its0 v_t_hasImage v_t_imageActs v_t_imageHeard x3 r5 o5_0 hz5) (cwV 1 hts gX12_learn_X12_isPerson rfl rfl rfl (by decide +kernel) ⟨Nat.le_of_ble_eq_true rfl, Nat.le_of_ble_eq_true rfl⟩) (gs_preV (ci := 12) hk hP hD (is := [0]) rfl rfl rfl rfl) rfl rfl hl.1 rfl (lv_room (Nat.le_of_ble_eq_true rfl)) dX12_learn_23 ⟨Nat.zero_le _, Nat.zero_le _⟩) hP hD hS [0] rfl rfl rfl rfl (fun H locs hP hD hS => ?_)
      refine lv_if_ne (tgt := 31) hx hb dX12_learn_26 (by decide) (fun c6 => ?_) (fun c6 => ?_)
      · replace h := gs_iff c6 h
        refine lv_aload_n hx hb dX12_learn_31 rfl (lv_at hl 0 rfl) ?_
        refine lv_iload_n hx hb dX12_learn_32 rfl (lv_at hl 1 rfl) ?_
        refine lv_iload_n hx hb dX12_learn_33 rfl (lv_at hl 2 rfl) ?_
        refine lv_iload_n hx hb dX12_learn_34 rfl (lv_at hl 3 rfl) ?_
        obtain ⟨r7, hz7, h⟩ := gs_b1_e h
        refine gs_backRi (va_runV (As := [.int x1, .int x2, .int x3]) (rest := []) ⟨hx, hb, hml, hown, hts⟩ (c_X12_mayLearn l E a_t a_t_songLong a_t_rows a_t_firstNote a_t_wit a_t_code a_t_tape a_t_refused a_t_newSongLong a_t_newFirstNote a_t_newWit a_t_newRow a_t_readCode a_t_waits a_t_tested a_t_isTold a_t_ahead a_t_told a_t_pile a_t_common a_t_mostOf a_t_likes a_t_heard a_t_soon a_t_soonAll a_t_imageRow a_t_imageAhead a_t_imageHears o5_0 v_t_songs v_t_people v_t_forgetsAt v_t_fillsAt v_t_taped v_t_faultKind v_t_faultPlace v_t_long1 v_t_next0 v_t_sort v_t_place v_t_long0 v_t_value v_t_sign v_t_word v_t_newSongs v_t_newPeople v_t_newForgetsAt v_t_newFillsAt v_t_top v_t_firstValue v_t_lastValue v_t_waiting v_t_depth v_t_acts v_t_isWinter v_t_learntNow v_t_forgottenNow v_t_heardMany v_t_its0 v_t_hasImage v_t_imageActs v_t_imageHeard r_t_songLong r_t_rows x1 x2 x3 r7 hz7) (cwV 3 hts gX12_learn_X12_mayLearn rfl rfl rfl (by decide +kernel) ⟨Nat.le_of_ble_eq_true rfl, Nat.le_of_ble_eq_true rfl⟩) (gs_preV (ci := 12) hk hP hD (is := [0, 1, 6]) rfl rfl rfl rfl) rfl rfl hl.1 rfl (lv_room (Nat.le_of_ble_eq_true rfl)) dX12_learn_35 ⟨Nat.zero_le _, Nat.zero_le _⟩) ?_
        refine lv_if_ne (tgt := 47) hx hb dX12_learn_38 (by decide) (fun c8 => ?_) (fun c8 => ?_)
        · replace h := gs_iff c8 h
          refine lv_aload_n hx hb dX12_learn_47 rfl (lv_at hl 0 rfl) ?_
          obtain ⟨o9_0, o9_1, hz9, h⟩ := gs_b2_e h
          refine gs_backWv (ws1 := (w_X12_learn E a_t a_t_songLong a_t_firstNote a_t_wit a_t_code a_t_refused a_t_rows a_t_ahead a_t_told a_t_pile a_t_tape a_t_newSongLong a_t_newFirstNote a_t_newWit a_t_newRow a_t_readCode a_t_waits a_t_tested a_t_isTold a_t_common a_t_mostOf a_t_likes a_t_heard a_t_soon a_t_soonAll a_t_imageRow a_t_imageAhead a_t_imageHears o5_0 v_t_songs v_t_people v_t_forgetsAt v_t_fillsAt v_t_taped v_t_faultKind v_t_faultPlace v_t_long1 v_t_next0 v_t_sort v_t_place v_t_long0 v_t_value v_t_sign v_t_word v_t_newSongs v_t_newPeople v_t_newForgetsAt v_t_newFillsAt v_t_top v_t_firstValue v_t_lastValue v_t_waiting v_t_depth o9_0 v_t_isWinter v_t_learntNow v_t_forgottenNow v_t_heardMany v_t_its0 v_t_hasImage v_t_imageActs v_t_imageHeard r_t_songLong r_t_firstNote r_t_wit r_t_code r_t_refused r_t_rows o9_1 r_t_told r_t_pile)) (va_runV (As := []) (rest := []) ⟨hx, hb, hml, hown, hts⟩ (c_X12_keeps l E a_t a_t_rows a_t_ahead a_t_songLong a_t_firstNote a_t_wit a_t_code a_t_tape a_t_refused a_t_newSongLong a_t_newFirstNote a_t_newWit a_t_newRow a_t_readCode a_t_waits a_t_tested a_t_isTold a_t_told a_t_pile a_t_common a_t_mostOf a_t_likes a_t_heard a_t_soon a_t_soonAll a_t_imageRow a_t_imageAhead a_t_imageHears o5_0 v_t_songs v_t_people v_t_forgetsAt v_t_fillsAt v_t_taped v_t_faultKind v_t_faultPlace v_t_long1 v_t_next0 v_t_sort v_t_place v_t_long0 v_t_value v_t_sign v_t_word v_t_newSongs v_t_newPeople v_t_newForgetsAt v_t_newFillsAt v_t_top v_t_firstValue v_t_lastValue v_t_waiting v_t_depth v_t_acts v_t_isWinter v_t_learntNow v_t_forgottenNow v_t_heardMany v_t_its0 v_t_hasImage v_t_imageActs v_t_imageHeard r_t_rows r_t_ahead o9_0 o9_1 hz9) (cwV 0 hts gX12_learn_X12_keeps rfl rfl rfl (by decide +kernel) ⟨Nat.le_of_ble_eq_true rfl, Nat.le_of_ble_eq_true rfl⟩) (gs_preV (ci := 12) hk hP hD (is := [0, 6, 7]) rfl rfl rfl rfl) rfl rfl hl.1 rfl (lv_room (Nat.le_of_ble_eq_true rfl)) dX12_learn_48 ⟨Nat.zero_le _, Nat.zero_le _⟩) hP hD hS [0, 6, 7] rfl rfl rfl rfl (fun H locs hP hD hS => ?_)
          refine lv_aload_n hx hb dX12_learn_51 rfl (lv_at hl 0 rfl) ?_
          refine lv_iconst (v := 0) hx hb dX12_learn_52 (by decide) ?_
          refine lv_iload_n hx hb dX12_learn_53 rfl (lv_at hl 1 rfl) ?_
          refine lv_iload_n hx hb dX12_learn_54 rfl (lv_at hl 2 rfl) ?_
          refine lv_iload_n hx hb dX12_learn_55 rfl (lv_at hl 3 rfl) ?_
          obtain ⟨o10_0, o10_1, o10_2, o10_3, hz10, h⟩ := gs_b4_e h
          refine gs_backWv (ws1 := (w_X12_learn E a_t a_t_songLong a_t_firstNote a_t_wit a_t_code a_t_refused a_t_rows a_t_ahead a_t_told a_t_pile a_t_tape a_t_newSongLong a_t_newFirstNote a_t_newWit a_t_newRow a_t_readCode a_t_waits a_t_tested a_t_isTold a_t_common a_t_mostOf a_t_likes a_t_heard a_t_soon a_t_soonAll a_t_imageRow a_t_imageAhead a_t_imageHears o5_0 v_t_songs v_t_people v_t_forgetsAt v_t_fillsAt v_t_taped v_t_faultKind v_t_faultPlace v_t_long1 v_t_next0 v_t_sort v_t_place v_t_long0 v_t_value v_t_sign v_t_word v_t_newSongs v_t_newPeople v_t_newForgetsAt v_t_newFillsAt v_t_top v_t_firstValue v_t_lastValue v_t_waiting v_t_depth o9_0 v_t_isWinter o10_0 v_t_forgottenNow v_t_heardMany v_t_its0 v_t_hasImage v_t_imageActs v_t_imageHeard r_t_songLong r_t_firstNote r_t_wit r_t_code r_t_refused o10_1 o9_1 o10_2 o10_3)) (va_runV (As := [.int 0, .int x1, .int x2, .int x3]) (rest := []) ⟨hx, hb, hml, hown, hts⟩ (c_X12_learns l E a_t a_t_songLong a_t_wit a_t_code a_t_rows a_t_told a_t_pile a_t_firstNote a_t_tape a_t_refused a_t_newSongLong a_t_newFirstNote a_t_newWit a_t_newRow a_t_readCode a_t_waits a_t_tested a_t_isTold a_t_ahead a_t_common a_t_mostOf a_t_likes a_t_heard a_t_soon a_t_soonAll a_t_imageRow a_t_imageAhead a_t_imageHears o5_0 v_t_songs v_t_people v_t_forgetsAt v_t_fillsAt v_t_taped v_t_faultKind v_t_faultPlace v_t_long1 v_t_next0 v_t_sort v_t_place v_t_long0 v_t_value v_t_sign v_t_word v_t_newSongs v_t_newPeople v_t_newForgetsAt v_t_newFillsAt v_t_top v_t_firstValue v_t_lastValue v_t_waiting v_t_depth o9_0 v_t_isWinter v_t_learntNow v_t_forgottenNow v_t_heardMany v_t_its0 v_t_hasImage v_t_imageActs v_t_imageHeard r_t_songLong r_t_wit r_t_code r_t_rows r_t_told r_t_pile 0 x1 x2 x3 o10_0 o10_1 o10_2 o10_3 hz10) (cwV 4 hts gX12_learn_X12_learns rfl rfl rfl (by decide +kernel) ⟨Nat.le_of_ble_eq_true rfl, Nat.le_of_ble_eq_true rfl⟩) (gs_preV (ci := 12) hk hP hD (is := [0, 1, 3, 4, 6, 8, 9]) rfl rfl rfl rfl) rfl rfl hl.1 rfl (lv_room (Nat.le_of_ble_eq_true rfl)) dX12_learn_56 ⟨Nat.zero_le _, Nat.zero_le _⟩) hP hD hS [0, 1, 3, 4, 6, 8, 9] rfl rfl rfl rfl (fun H locs hP hD hS => ?_)
          refine lv_aload_n hx hb dX12_learn_59 rfl (lv_at hl 0 rfl) ?_
          refine lv_iconst (v := 0) hx hb dX12_learn_60 (by decide) ?_
          refine lv_iload_n hx hb dX12_learn_61 rfl (lv_at hl 1 rfl) ?_
          refine lv_iload_n hx hb dX12_learn_62 rfl (lv_at hl 2 rfl) ?_
          obtain ⟨r11, hz11, h⟩ := gs_b1_e h
          refine gs_backRi (va_runV (As := [.int 0, .int x1, .int x2]) (rest := []) ⟨hx, hb, hml, hown, hts⟩ (c_X12_likeIn l E a_t a_t_songLong a_t_firstNote a_t_rows a_t_wit a_t_code a_t_tape a_t_refused a_t_newSongLong a_t_newFirstNote a_t_newWit a_t_newRow a_t_readCode a_t_waits a_t_tested a_t_isTold a_t_ahead a_t_told a_t_pile a_t_common a_t_mostOf a_t_likes a_t_heard a_t_soon a_t_soonAll a_t_imageRow a_t_imageAhead a_t_imageHears o5_0 v_t_songs v_t_people v_t_forgetsAt v_t_fillsAt v_t_taped v_t_faultKind v_t_faultPlace v_t_long1 v_t_next0 v_t_sort v_t_place v_t_long0 v_t_value v_t_sign v_t_word v_t_newSongs v_t_newPeople v_t_newForgetsAt v_t_newFillsAt v_t_top v_t_firstValue v_t_lastValue v_t_waiting v_t_depth o9_0 v_t_isWinter o10_0 v_t_forgottenNow v_t_heardMany v_t_its0 v_t_hasImage v_t_imageActs v_t_imageHeard r_t_songLong r_t_firstNote o10_1 0 x1 x2 r11 hz11) (cwV 3 hts gX12_learn_X12_likeIn rfl rfl rfl (by decide +kernel) ⟨Nat.le_of_ble_eq_true rfl, Nat.le_of_ble_eq_true rfl⟩) (gs_preV (ci := 12) hk hP hD (is := [0, 1, 2, 6]) rfl rfl rfl rfl) rfl rfl hl.1 rfl (lv_room (Nat.le_of_ble_eq_true rfl)) dX12_learn_63 ⟨Nat.zero_le _, Nat.zero_le _⟩) ?_
          have h := Option.some.inj h
          obtain ⟨w0, h⟩ := Prod.mk.inj h
          obtain ⟨w1, h⟩ := Prod.mk.inj h
          obtain ⟨w2, h⟩ := Prod.mk.inj h
          obtain ⟨w3, h⟩ := Prod.mk.inj h
          obtain ⟨w4, h⟩ := Prod.mk.inj h
          obtain ⟨w5, h⟩ := Prod.mk.inj h
          obtain ⟨w6, h⟩ := Prod.mk.inj h
          obtain ⟨w7, h⟩ := Prod.mk.inj h
          subst h
          subst w0
          subst w1
          subst w2
          subst w3
          subst w4
          subst w5
          subst w6
          subst w7
          exact hret _ _ _ _ hP hS dX12_learn_66
        · replace h := gs_ift c8 h
          refine lv_aload_n hx hb dX12_learn_41 rfl (lv_at hl 0 rfl) ?_
          refine lv_iconst (v := 1) hx hb dX12_learn_42 (by decide) ?_
          obtain ⟨r12, o12_0, hz12, h⟩ := gs_b2_e h
          refine gs_backWi (ws1 := (w_X12_learn E a_t a_t_songLong a_t_firstNote a_t_wit a_t_code a_t_refused a_t_rows a_t_ahead a_t_told a_t_pile a_t_tape a_t_newSongLong a_t_newFirstNote a_t_newWit a_t_newRow a_t_readCode a_t_waits a_t_tested a_t_isTold a_t_common a_t_mostOf a_t_likes a_t_heard a_t_soon a_t_soonAll a_t_imageRow a_t_imageAhead a_t_imageHears o5_0 v_t_songs v_t_people v_t_forgetsAt v_t_fillsAt v_t_taped v_t_faultKind v_t_faultPlace v_t_long1 v_t_next0 v_t_sort v_t_place v_t_long0 v_t_value v_t_sign v_t_word v_t_newSongs v_t_newPeople v_t_newForgetsAt v_t_newFillsAt v_t_top v_t_firstValue v_t_lastValue v_t_waiting v_t_depth v_t_acts v_t_isWinter v_t_learntNow v_t_forgottenNow v_t_heardMany v_t_its0 v_t_hasImage v_t_imageActs v_t_imageHeard r_t_songLong r_t_firstNote r_t_wit r_t_code o12_0 r_t_rows r_t_ahead r_t_told r_t_pile)) (va_runV (As := [.int 1]) (rest := []) ⟨hx, hb, hml, hown, hts⟩ (c_X12_refuses l E a_t a_t_refused a_t_songLong a_t_firstNote a_t_wit a_t_code a_t_tape a_t_newSongLong a_t_newFirstNote a_t_newWit a_t_newRow a_t_readCode a_t_waits a_t_tested a_t_isTold a_t_rows a_t_ahead a_t_told a_t_pile a_t_common a_t_mostOf a_t_likes a_t_heard a_t_soon a_t_soonAll a_t_imageRow a_t_imageAhead a_t_imageHears o5_0 v_t_songs v_t_people v_t_forgetsAt v_t_fillsAt v_t_taped v_t_faultKind v_t_faultPlace v_t_long1 v_t_next0 v_t_sort v_t_place v_t_long0 v_t_value v_t_sign v_t_word v_t_newSongs v_t_newPeople v_t_newForgetsAt v_t_newFillsAt v_t_top v_t_firstValue v_t_lastValue v_t_waiting v_t_depth v_t_acts v_t_isWinter v_t_learntNow v_t_forgottenNow v_t_heardMany v_t_its0 v_t_hasImage v_t_imageActs v_t_imageHeard r_t_refused 1 r12 o12_0 hz12) (cwV 1 hts gX12_learn_X12_refuses rfl rfl rfl (by decide +kernel) ⟨Nat.le_of_ble_eq_true rfl, Nat.le_of_ble_eq_true rfl⟩) (gs_preV (ci := 12) hk hP hD (is := [0, 5]) rfl rfl rfl rfl) rfl rfl hl.1 rfl (lv_room (Nat.le_of_ble_eq_true rfl)) dX12_learn_43 ⟨Nat.zero_le _, Nat.zero_le _⟩) hP hD hS [0, 5] rfl rfl rfl rfl (fun H locs hP hD hS => ?_)
          have h := Option.some.inj h
          obtain ⟨w0, h⟩ := Prod.mk.inj h
          obtain ⟨w1, h⟩ := Prod.mk.inj h
          obtain ⟨w2, h⟩ := Prod.mk.inj h
          obtain ⟨w3, h⟩ := Prod.mk.inj h
          obtain ⟨w4, h⟩ := Prod.mk.inj h
          obtain ⟨w5, h⟩ := Prod.mk.inj h
          obtain ⟨w6, h⟩ := Prod.mk.inj h
          obtain ⟨w7, h⟩ := Prod.mk.inj h
          subst h
          subst w0
          subst w1
          subst w2
          subst w3
          subst w4
          subst w5
          subst w6
          subst w7
          exact hret _ _ _ _ hP hS dX12_learn_46
      · replace h := gs_ift c6 h
        refine lv_iconst (v := 0) hx hb dX12_learn_29 (by decide) ?_
        have h := Option.some.inj h
        obtain ⟨w0, h⟩ := Prod.mk.inj h
        obtain ⟨w1, h⟩ := Prod.mk.inj h
        obtain ⟨w2, h⟩ := Prod.mk.inj h
        obtain ⟨w3, h⟩ := Prod.mk.inj h
        obtain ⟨w4, h⟩ := Prod.mk.inj h
        obtain ⟨w5, h⟩ := Prod.mk.inj h
        obtain ⟨w6, h⟩ := Prod.mk.inj h
        obtain ⟨w7, h⟩ := Prod.mk.inj h
        subst h
        subst w0
        subst w1
        subst w2
        subst w3
        subst w4
        subst w5
        subst w6
        subst w7
        exact hret _ _ _ _ hP hS dX12_learn_30

set_option maxRecDepth 100000 in
theorem ggX12_seek_X12_isPerson : GoodIn wsX12_seek wsX12_isPerson := goodIn_r _ [8, 2, 9, 10, 11, 7, 12, 1, 29, 30, 31, 32, 33, 34, 35, 36, 37, 38, 39, 40, 41, 42, 43, 44, 45, 46, 47, 48, 49, 50, 51, 52, 53, 54, 55, 56, 57, 58, 59, 60, 61, 62, 63, 64, 65, 66, 67, 68, 69, 70, 71, 72, 73, 74, 75, 76, 77, 78, 79, 80, 81, 82, 83, 84, 85, 86, 87, 88, 89] rfl (by decide +kernel)
set_option maxRecDepth 100000 in
theorem gX12_seek_X12_isPerson : GoodIn wsX12_seek (wsV RX12 387 RX12 yX12_isPerson wsX12_isPerson) := goodIn_app (goodIn_of _ (by decide +kernel)) ggX12_seek_X12_isPerson
set_option maxRecDepth 100000 in
theorem ggX12_seek_X12_right : GoodIn wsX12_seek wsX12_right := goodIn_r _ [12, 1, 29, 30, 31, 32, 33, 34, 35, 36, 37, 38, 39, 40, 41, 42, 43, 44, 45, 46, 47, 48, 49, 50, 51, 52, 53, 54, 55, 56, 57, 58, 59, 60, 61, 62, 63, 64, 65, 66, 67, 68, 69, 70, 71, 72, 73, 74, 75, 76, 77, 78, 79, 80, 81, 82, 83, 84, 85, 86, 87, 88, 89] rfl (by decide +kernel)
set_option maxRecDepth 100000 in
theorem gX12_seek_X12_right : GoodIn wsX12_seek (wsV RX12 266 RX12 yX12_right wsX12_right) := goodIn_app (goodIn_of _ (by decide +kernel)) ggX12_seek_X12_right
set_option maxRecDepth 100000 in
theorem ggX12_seek_X12_isSong : GoodIn wsX12_seek wsX12_isSong := goodIn_r _ [16, 17, 9, 10, 11, 7, 12, 1, 29, 30, 31, 32, 33, 34, 35, 36, 37, 38, 39, 40, 41, 42, 43, 44, 45, 46, 47, 48, 49, 50, 51, 52, 53, 54, 55, 56, 57, 58, 59, 60, 61, 62, 63, 64, 65, 66, 67, 68, 69, 70, 71, 72, 73, 74, 75, 76, 77, 78, 79, 80, 81, 82, 83, 84, 85, 86, 87, 88, 89] rfl (by decide +kernel)
set_option maxRecDepth 100000 in
theorem gX12_seek_X12_isSong : GoodIn wsX12_seek (wsV RX12 374 RX12 yX12_isSong wsX12_isSong) := goodIn_app (goodIn_of _ (by decide +kernel)) ggX12_seek_X12_isSong
set_option maxRecDepth 100000 in
theorem ggX12_seek_X12_refuses : GoodIn wsX12_seek wsX12_refuses := goodIn_r _ [21, 22, 29, 30, 31, 32, 33, 34, 35, 36, 37, 38, 39, 40, 41, 42, 43, 44, 45, 46, 47, 48, 49, 50, 51, 52, 53, 54, 55, 56, 57, 58, 59, 60, 61, 62, 63, 64, 65, 66, 67, 68, 69, 70, 71, 72, 73, 74, 75, 76, 77, 78, 79, 80, 81, 82, 83, 84, 85, 86, 87, 88, 89] rfl (by decide +kernel)
set_option maxRecDepth 100000 in
theorem gX12_seek_X12_refuses : GoodIn wsX12_seek (wsV RX12 408 RX12 yX12_refuses wsX12_refuses) := goodIn_app (goodIn_of _ (by decide +kernel)) ggX12_seek_X12_refuses
set_option maxRecDepth 100000 in
theorem ggX12_seek_X12_keeps : GoodIn wsX12_seek wsX12_keeps := goodIn_r _ [26, 27, 28, 3, 29, 30, 31, 32, 33, 34, 35, 36, 37, 38, 39, 40, 41, 42, 43, 44, 45, 46, 47, 48, 49, 50, 51, 52, 53, 54, 55, 56, 57, 58, 59, 60, 61, 62, 63, 64, 65, 66, 67, 68, 69, 70, 71, 72, 73, 74, 75, 76, 77, 78, 79, 80, 81, 82, 83, 84, 85, 86, 87, 88, 89] rfl (by decide +kernel)
set_option maxRecDepth 100000 in
theorem gX12_seek_X12_keeps : GoodIn wsX12_seek (wsV RX12 411 RX12 yX12_keeps wsX12_keeps) := goodIn_app (goodIn_of _ (by decide +kernel)) ggX12_seek_X12_keeps
theorem dX12_seek_0 : decode cX12_seek 0 = .ok (.aload_n 0, 1) := by decide +kernel
theorem dX12_seek_1 : decode cX12_seek 1 = .ok (.iconst 0, 1) := by decide +kernel
theorem dX12_seek_2 : decode cX12_seek 2 = .ok (.putfield 102, 3) := by decide +kernel
theorem dX12_seek_5 : decode cX12_seek 5 = .ok (.aload_n 0, 1) := by decide +kernel
theorem dX12_seek_6 : decode cX12_seek 6 = .ok (.iload_n 1, 1) := by decide +kernel
theorem dX12_seek_7 : decode cX12_seek 7 = .ok (.invokevirtual 387, 3) := by decide +kernel
theorem dX12_seek_10 : decode cX12_seek 10 = .ok (.ifCond .eq 42, 3) := by decide +kernel
theorem dX12_seek_13 : decode cX12_seek 13 = .ok (.aload_n 0, 1) := by decide +kernel
theorem dX12_seek_14 : decode cX12_seek 14 = .ok (.iload_n 3, 1) := by decide +kernel
theorem dX12_seek_15 : decode cX12_seek 15 = .ok (.iconst (-1), 1) := by decide +kernel
theorem dX12_seek_16 : decode cX12_seek 16 = .ok (.if_icmp .lt 15, 3) := by decide +kernel
theorem dX12_seek_19 : decode cX12_seek 19 = .ok (.iload_n 3, 1) := by decide +kernel
theorem dX12_seek_20 : decode cX12_seek 20 = .ok (.aload_n 0, 1) := by decide +kernel
theorem dX12_seek_21 : decode cX12_seek 21 = .ok (.getfield 276, 3) := by decide +kernel
theorem dX12_seek_24 : decode cX12_seek 24 = .ok (.if_icmp .ge 7, 3) := by decide +kernel
theorem dX12_seek_27 : decode cX12_seek 27 = .ok (.iconst 1, 1) := by decide +kernel
theorem dX12_seek_28 : decode cX12_seek 28 = .ok (.goto 4, 3) := by decide +kernel
theorem dX12_seek_31 : decode cX12_seek 31 = .ok (.iconst 0, 1) := by decide +kernel
theorem dX12_seek_32 : decode cX12_seek 32 = .ok (.iconst 1, 1) := by decide +kernel
theorem dX12_seek_33 : decode cX12_seek 33 = .ok (.invokevirtual 266, 3) := by decide +kernel
theorem dX12_seek_36 : decode cX12_seek 36 = .ok (.ifCond .eq 16, 3) := by decide +kernel
theorem dX12_seek_39 : decode cX12_seek 39 = .ok (.iload_n 3, 1) := by decide +kernel
theorem dX12_seek_40 : decode cX12_seek 40 = .ok (.iconst (-1), 1) := by decide +kernel
theorem dX12_seek_41 : decode cX12_seek 41 = .ok (.if_icmp .eq 13, 3) := by decide +kernel
theorem dX12_seek_44 : decode cX12_seek 44 = .ok (.aload_n 0, 1) := by decide +kernel
theorem dX12_seek_45 : decode cX12_seek 45 = .ok (.iload_n 2, 1) := by decide +kernel
theorem dX12_seek_46 : decode cX12_seek 46 = .ok (.invokevirtual 374, 3) := by decide +kernel
theorem dX12_seek_49 : decode cX12_seek 49 = .ok (.ifCond .ne 5, 3) := by decide +kernel
theorem dX12_seek_52 : decode cX12_seek 52 = .ok (.iconst 0, 1) := by decide +kernel
theorem dX12_seek_53 : decode cX12_seek 53 = .ok (.ireturn, 1) := by decide +kernel
theorem dX12_seek_54 : decode cX12_seek 54 = .ok (.iload_n 3, 1) := by decide +kernel
theorem dX12_seek_55 : decode cX12_seek 55 = .ok (.iconst (-1), 1) := by decide +kernel
theorem dX12_seek_56 : decode cX12_seek 56 = .ok (.if_icmp .ne 7, 3) := by decide +kernel
theorem dX12_seek_59 : decode cX12_seek 59 = .ok (.iconst (-1), 1) := by decide +kernel
theorem dX12_seek_60 : decode cX12_seek 60 = .ok (.goto 4, 3) := by decide +kernel
theorem dX12_seek_63 : decode cX12_seek 63 = .ok (.iload_n 2, 1) := by decide +kernel
theorem dX12_seek_64 : decode cX12_seek 64 = .ok (.istore 4, 2) := by decide +kernel
theorem dX12_seek_66 : decode cX12_seek 66 = .ok (.iload_n 1, 1) := by decide +kernel
theorem dX12_seek_67 : decode cX12_seek 67 = .ok (.iload_n 3, 1) := by decide +kernel
theorem dX12_seek_68 : decode cX12_seek 68 = .ok (.if_icmp .eq 32, 3) := by decide +kernel
theorem dX12_seek_71 : decode cX12_seek 71 = .ok (.aload_n 0, 1) := by decide +kernel
theorem dX12_seek_72 : decode cX12_seek 72 = .ok (.getfield 63, 3) := by decide +kernel
theorem dX12_seek_75 : decode cX12_seek 75 = .ok (.sipush 351, 3) := by decide +kernel
theorem dX12_seek_78 : decode cX12_seek 78 = .ok (.iload_n 1, 1) := by decide +kernel
theorem dX12_seek_79 : decode cX12_seek 79 = .ok (.iadd, 1) := by decide +kernel
theorem dX12_seek_80 : decode cX12_seek 80 = .ok (.iaload, 1) := by decide +kernel
theorem dX12_seek_81 : decode cX12_seek 81 = .ok (.iload 4, 2) := by decide +kernel
theorem dX12_seek_83 : decode cX12_seek 83 = .ok (.if_icmp .ne 31, 3) := by decide +kernel
theorem dX12_seek_86 : decode cX12_seek 86 = .ok (.aload_n 0, 1) := by decide +kernel
theorem dX12_seek_87 : decode cX12_seek 87 = .ok (.getfield 63, 3) := by decide +kernel
theorem dX12_seek_90 : decode cX12_seek 90 = .ok (.sipush 358, 3) := by decide +kernel
theorem dX12_seek_93 : decode cX12_seek 93 = .ok (.iload_n 1, 1) := by decide +kernel
theorem dX12_seek_94 : decode cX12_seek 94 = .ok (.iadd, 1) := by decide +kernel
theorem dX12_seek_95 : decode cX12_seek 95 = .ok (.iaload, 1) := by decide +kernel
theorem dX12_seek_96 : decode cX12_seek 96 = .ok (.iload_n 3, 1) := by decide +kernel
theorem dX12_seek_97 : decode cX12_seek 97 = .ok (.if_icmp .ne 17, 3) := by decide +kernel
theorem dX12_seek_100 : decode cX12_seek 100 = .ok (.aload_n 0, 1) := by decide +kernel
theorem dX12_seek_101 : decode cX12_seek 101 = .ok (.iconst 1, 1) := by decide +kernel
theorem dX12_seek_102 : decode cX12_seek 102 = .ok (.invokevirtual 408, 3) := by decide +kernel
theorem dX12_seek_105 : decode cX12_seek 105 = .ok (.ifCond .le 7, 3) := by decide +kernel
theorem dX12_seek_108 : decode cX12_seek 108 = .ok (.iconst 1, 1) := by decide +kernel
theorem dX12_seek_109 : decode cX12_seek 109 = .ok (.goto 4, 3) := by decide +kernel
theorem dX12_seek_112 : decode cX12_seek 112 = .ok (.iconst 0, 1) := by decide +kernel
theorem dX12_seek_113 : decode cX12_seek 113 = .ok (.ireturn, 1) := by decide +kernel
theorem dX12_seek_114 : decode cX12_seek 114 = .ok (.aload_n 0, 1) := by decide +kernel
theorem dX12_seek_115 : decode cX12_seek 115 = .ok (.invokevirtual 411, 3) := by decide +kernel
theorem dX12_seek_118 : decode cX12_seek 118 = .ok (.aload_n 0, 1) := by decide +kernel
theorem dX12_seek_119 : decode cX12_seek 119 = .ok (.getfield 63, 3) := by decide +kernel
theorem dX12_seek_122 : decode cX12_seek 122 = .ok (.sipush 351, 3) := by decide +kernel
theorem dX12_seek_125 : decode cX12_seek 125 = .ok (.iload_n 1, 1) := by decide +kernel
theorem dX12_seek_126 : decode cX12_seek 126 = .ok (.iadd, 1) := by decide +kernel
theorem dX12_seek_127 : decode cX12_seek 127 = .ok (.iload 4, 2) := by decide +kernel
theorem dX12_seek_129 : decode cX12_seek 129 = .ok (.iastore, 1) := by decide +kernel
theorem dX12_seek_130 : decode cX12_seek 130 = .ok (.aload_n 0, 1) := by decide +kernel
theorem dX12_seek_131 : decode cX12_seek 131 = .ok (.getfield 63, 3) := by decide +kernel
theorem dX12_seek_134 : decode cX12_seek 134 = .ok (.sipush 358, 3) := by decide +kernel
theorem dX12_seek_137 : decode cX12_seek 137 = .ok (.iload_n 1, 1) := by decide +kernel
theorem dX12_seek_138 : decode cX12_seek 138 = .ok (.iadd, 1) := by decide +kernel
theorem dX12_seek_139 : decode cX12_seek 139 = .ok (.iload_n 3, 1) := by decide +kernel
theorem dX12_seek_140 : decode cX12_seek 140 = .ok (.iastore, 1) := by decide +kernel
theorem dX12_seek_141 : decode cX12_seek 141 = .ok (.iconst 1, 1) := by decide +kernel
theorem dX12_seek_142 : decode cX12_seek 142 = .ok (.ireturn, 1) := by decide +kernel
abbrev w_X12_seek (E : gs_E) (a_t a_t_refused a_t_rows a_t_ahead a_t_songLong a_t_firstNote a_t_wit a_t_code a_t_tape a_t_newSongLong a_t_newFirstNote a_t_newWit a_t_newRow a_t_readCode a_t_waits a_t_tested a_t_isTold a_t_told a_t_pile a_t_common a_t_mostOf a_t_likes a_t_heard a_t_soon a_t_soonAll a_t_imageRow a_t_imageAhead a_t_imageHears : Nat) (v_t_thrown : Int32) (v_t_songs : Int32) (v_t_people : Int32) (v_t_forgetsAt : Int32) (v_t_fillsAt : Int32) (v_t_taped : Int32) (v_t_faultKind : Int32) (v_t_faultPlace : Int32) (v_t_long1 : Int32) (v_t_next0 : Int32) (v_t_sort : Int32) (v_t_place : Int32) (v_t_long0 : Int32) (v_t_value : Int32) (v_t_sign : Int32) (v_t_word : Int64) (v_t_newSongs : Int32) (v_t_newPeople : Int32) (v_t_newForgetsAt : Int32) (v_t_newFillsAt : Int32) (v_t_top : Int32) (v_t_firstValue : Int32) (v_t_lastValue : Int32) (v_t_waiting : Int32) (v_t_depth : Int32) (v_t_acts : Int32) (v_t_isWinter : Int32) (v_t_learntNow : Int32) (v_t_forgottenNow : Int32) (v_t_heardMany : Int32) (v_t_its0 : Int32) (v_t_hasImage : Int32) (v_t_imageActs : Int32) (v_t_imageHeard : Int32) (r_t_refused : Nat → Int32) (r_t_rows : Nat → Int32) (r_t_ahead : Nat → Int32) : va_W := [(a_t, .inr (12, [.int v_t_thrown, .int v_t_songs, .int v_t_people, .int v_t_forgetsAt, .int v_t_fillsAt, .ref a_t_songLong, .ref a_t_firstNote, .ref a_t_wit, .ref a_t_code, .ref a_t_tape, .int v_t_taped, .int v_t_faultKind, .int v_t_faultPlace, .ref a_t_refused, .int v_t_long1, .int v_t_next0, .int v_t_sort, .int v_t_place, .int v_t_long0, .int v_t_value, .int v_t_sign, .long v_t_word, .int v_t_newSongs, .int v_t_newPeople, .int v_t_newForgetsAt, .int v_t_newFillsAt, .int v_t_top, .int v_t_firstValue, .int v_t_lastValue, .int v_t_waiting, .int v_t_depth, .ref a_t_newSongLong, .ref a_t_newFirstNote, .ref a_t_newWit, .ref a_t_newRow, .ref a_t_readCode, .ref a_t_waits, .ref a_t_tested, .ref a_t_isTold, .ref a_t_rows, .ref a_t_ahead, .int v_t_acts, .ref a_t_told, .ref a_t_pile, .int v_t_isWinter, .int v_t_learntNow, .int v_t_forgottenNow, .ref a_t_common, .ref a_t_mostOf, .ref a_t_likes, .int v_t_heardMany, .ref a_t_heard, .ref a_t_soon, .ref a_t_soonAll, .int v_t_its0, .int v_t_hasImage, .int v_t_imageActs, .int v_t_imageHeard, .ref a_t_imageRow, .ref a_t_imageAhead, .ref a_t_imageHears])), (a_t_refused, .inl (E.2.1, 3, .inl r_t_refused)), (a_t_rows, .inl (E.2.1, 744, .inl r_t_rows)), (a_t_ahead, .inl (E.2.1, 14880, .inl r_t_ahead))]
abbrev rm_X12_seek : Room := { frames := 2, cells := 0, slots := 0, locals := 43 }
def S_X12_seek_32 (p : Program) (l : Launch) (e : Env) (s : State) (m : MethodId) (args : Array Value) (below : List Frame) (meth : Method) (c : Code) (Q : State → Prop) (a_t a_t_refused a_t_rows a_t_ahead a_t_songLong a_t_firstNote a_t_wit a_t_code a_t_tape a_t_newSongLong a_t_newFirstNote a_t_newWit a_t_newRow a_t_readCode a_t_waits a_t_tested a_t_isTold a_t_told a_t_pile a_t_common a_t_mostOf a_t_likes a_t_heard a_t_soon a_t_soonAll a_t_imageRow a_t_imageAhead a_t_imageHears : Nat) (E : gs_E) (A : Nat → Prop) (v_t_thrown : Int32) (v_t_songs : Int32) (v_t_people : Int32) (v_t_forgetsAt : Int32) (v_t_fillsAt : Int32) (v_t_taped : Int32) (v_t_faultKind : Int32) (v_t_faultPlace : Int32) (v_t_long1 : Int32) (v_t_next0 : Int32) (v_t_sort : Int32) (v_t_place : Int32) (v_t_long0 : Int32) (v_t_value : Int32) (v_t_sign : Int32) (v_t_word : Int64) (v_t_newSongs : Int32) (v_t_newPeople : Int32) (v_t_newForgetsAt : Int32) (v_t_newFillsAt : Int32) (v_t_top : Int32) (v_t_firstValue : Int32) (v_t_lastValue : Int32) (v_t_waiting : Int32) (v_t_depth : Int32) (v_t_acts : Int32) (v_t_isWinter : Int32) (v_t_learntNow : Int32) (v_t_forgottenNow : Int32) (v_t_heardMany : Int32) (v_t_its0 : Int32) (v_t_hasImage : Int32) (v_t_imageActs : Int32) (v_t_imageHeard : Int32) (r_t_refused : Nat → Int32) (r_t_rows : Nat → Int32) (r_t_ahead : Nat → Int32) (k1 : Int32) (x1 : Int32) (x2 : Int32) (x3 : Int32) : Prop := ∀ (H : Heap) (locs : List Loc) (ls : Array Slot), va_P E.1 vwCl (w_X12_seek E a_t a_t_refused a_t_rows a_t_ahead a_t_songLong a_t_firstNote a_t_wit a_t_code a_t_tape a_t_newSongLong a_t_newFirstNote a_t_newWit a_t_newRow a_t_readCode a_t_waits a_t_tested a_t_isTold a_t_told a_t_pile a_t_common a_t_mostOf a_t_likes a_t_heard a_t_soon a_t_soonAll a_t_imageRow a_t_imageAhead a_t_imageHears v_t_thrown v_t_songs v_t_people v_t_forgetsAt v_t_fillsAt v_t_taped v_t_faultKind v_t_faultPlace v_t_long1 v_t_next0 v_t_sort v_t_place v_t_long0 v_t_value v_t_sign v_t_word v_t_newSongs v_t_newPeople v_t_newForgetsAt v_t_newFillsAt v_t_top v_t_firstValue v_t_lastValue v_t_waiting v_t_depth v_t_acts v_t_isWinter v_t_learntNow v_t_forgottenNow v_t_heardMany v_t_its0 v_t_hasImage v_t_imageActs v_t_imageHeard r_t_refused r_t_rows r_t_ahead) H → va_D A (w_X12_seek E a_t a_t_refused a_t_rows a_t_ahead a_t_songLong a_t_firstNote a_t_wit a_t_code a_t_tape a_t_newSongLong a_t_newFirstNote a_t_newWit a_t_newRow a_t_readCode a_t_waits a_t_tested a_t_isTold a_t_told a_t_pile a_t_common a_t_mostOf a_t_likes a_t_heard a_t_soon a_t_soonAll a_t_imageRow a_t_imageAhead a_t_imageHears v_t_thrown v_t_songs v_t_people v_t_forgetsAt v_t_fillsAt v_t_taped v_t_faultKind v_t_faultPlace v_t_long1 v_t_next0 v_t_sort v_t_place v_t_long0 v_t_value v_t_sign v_t_word v_t_newSongs v_t_newPeople v_t_newForgetsAt v_t_newFillsAt v_t_top v_t_firstValue v_t_lastValue v_t_waiting v_t_depth v_t_acts v_t_isWinter v_t_learntNow v_t_forgottenNow v_t_heardMany v_t_its0 v_t_hasImage v_t_imageActs v_t_imageHeard r_t_refused r_t_rows r_t_ahead) → va_S A s.heap H locs → lv_has ls 5 [(0, .ref a_t), (1, .int x1), (2, .int x2), (3, .int x3)] → W p l e rm_X12_seek s m args below meth c H locs 0 0 Q (F0 m 32 ls [.int k1, .ref a_t])
def S_X12_seek_64 (p : Program) (l : Launch) (e : Env) (s : State) (m : MethodId) (args : Array Value) (below : List Frame) (meth : Method) (c : Code) (Q : State → Prop) (a_t a_t_refused a_t_rows a_t_ahead a_t_songLong a_t_firstNote a_t_wit a_t_code a_t_tape a_t_newSongLong a_t_newFirstNote a_t_newWit a_t_newRow a_t_readCode a_t_waits a_t_tested a_t_isTold a_t_told a_t_pile a_t_common a_t_mostOf a_t_likes a_t_heard a_t_soon a_t_soonAll a_t_imageRow a_t_imageAhead a_t_imageHears : Nat) (E : gs_E) (A : Nat → Prop) (v_t_thrown : Int32) (v_t_songs : Int32) (v_t_people : Int32) (v_t_forgetsAt : Int32) (v_t_fillsAt : Int32) (v_t_taped : Int32) (v_t_faultKind : Int32) (v_t_faultPlace : Int32) (v_t_long1 : Int32) (v_t_next0 : Int32) (v_t_sort : Int32) (v_t_place : Int32) (v_t_long0 : Int32) (v_t_value : Int32) (v_t_sign : Int32) (v_t_word : Int64) (v_t_newSongs : Int32) (v_t_newPeople : Int32) (v_t_newForgetsAt : Int32) (v_t_newFillsAt : Int32) (v_t_top : Int32) (v_t_firstValue : Int32) (v_t_lastValue : Int32) (v_t_waiting : Int32) (v_t_depth : Int32) (v_t_acts : Int32) (v_t_isWinter : Int32) (v_t_learntNow : Int32) (v_t_forgottenNow : Int32) (v_t_heardMany : Int32) (v_t_its0 : Int32) (v_t_hasImage : Int32) (v_t_imageActs : Int32) (v_t_imageHeard : Int32) (r_t_refused : Nat → Int32) (r_t_rows : Nat → Int32) (r_t_ahead : Nat → Int32) (k0 : Int32) (x1 : Int32) (x3 : Int32) : Prop := ∀ (H : Heap) (locs : List Loc) (ls : Array Slot), va_P E.1 vwCl (w_X12_seek E a_t a_t_refused a_t_rows a_t_ahead a_t_songLong a_t_firstNote a_t_wit a_t_code a_t_tape a_t_newSongLong a_t_newFirstNote a_t_newWit a_t_newRow a_t_readCode a_t_waits a_t_tested a_t_isTold a_t_told a_t_pile a_t_common a_t_mostOf a_t_likes a_t_heard a_t_soon a_t_soonAll a_t_imageRow a_t_imageAhead a_t_imageHears v_t_thrown v_t_songs v_t_people v_t_forgetsAt v_t_fillsAt v_t_taped v_t_faultKind v_t_faultPlace v_t_long1 v_t_next0 v_t_sort v_t_place v_t_long0 v_t_value v_t_sign v_t_word v_t_newSongs v_t_newPeople v_t_newForgetsAt v_t_newFillsAt v_t_top v_t_firstValue v_t_lastValue v_t_waiting v_t_depth v_t_acts v_t_isWinter v_t_learntNow v_t_forgottenNow v_t_heardMany v_t_its0 v_t_hasImage v_t_imageActs v_t_imageHeard r_t_refused r_t_rows r_t_ahead) H → va_D A (w_X12_seek E a_t a_t_refused a_t_rows a_t_ahead a_t_songLong a_t_firstNote a_t_wit a_t_code a_t_tape a_t_newSongLong a_t_newFirstNote a_t_newWit a_t_newRow a_t_readCode a_t_waits a_t_tested a_t_isTold a_t_told a_t_pile a_t_common a_t_mostOf a_t_likes a_t_heard a_t_soon a_t_soonAll a_t_imageRow a_t_imageAhead a_t_imageHears v_t_thrown v_t_songs v_t_people v_t_forgetsAt v_t_fillsAt v_t_taped v_t_faultKind v_t_faultPlace v_t_long1 v_t_next0 v_t_sort v_t_place v_t_long0 v_t_value v_t_sign v_t_word v_t_newSongs v_t_newPeople v_t_newForgetsAt v_t_newFillsAt v_t_top v_t_firstValue v_t_lastValue v_t_waiting v_t_depth v_t_acts v_t_isWinter v_t_learntNow v_t_forgottenNow v_t_heardMany v_t_its0 v_t_hasImage v_t_imageActs v_t_imageHeard r_t_refused r_t_rows r_t_ahead) → va_S A s.heap H locs → lv_has ls 5 [(0, .ref a_t), (1, .int x1), (3, .int x3)] → W p l e rm_X12_seek s m args below meth c H locs 0 0 Q (F0 m 64 ls [.int k0])
def S_X12_seek_100 (p : Program) (l : Launch) (e : Env) (s : State) (m : MethodId) (args : Array Value) (below : List Frame) (meth : Method) (c : Code) (Q : State → Prop) (a_t a_t_refused a_t_rows a_t_ahead a_t_songLong a_t_firstNote a_t_wit a_t_code a_t_tape a_t_newSongLong a_t_newFirstNote a_t_newWit a_t_newRow a_t_readCode a_t_waits a_t_tested a_t_isTold a_t_told a_t_pile a_t_common a_t_mostOf a_t_likes a_t_heard a_t_soon a_t_soonAll a_t_imageRow a_t_imageAhead a_t_imageHears : Nat) (E : gs_E) (A : Nat → Prop) (v_t_thrown : Int32) (v_t_songs : Int32) (v_t_people : Int32) (v_t_forgetsAt : Int32) (v_t_fillsAt : Int32) (v_t_taped : Int32) (v_t_faultKind : Int32) (v_t_faultPlace : Int32) (v_t_long1 : Int32) (v_t_next0 : Int32) (v_t_sort : Int32) (v_t_place : Int32) (v_t_long0 : Int32) (v_t_value : Int32) (v_t_sign : Int32) (v_t_word : Int64) (v_t_newSongs : Int32) (v_t_newPeople : Int32) (v_t_newForgetsAt : Int32) (v_t_newFillsAt : Int32) (v_t_top : Int32) (v_t_firstValue : Int32) (v_t_lastValue : Int32) (v_t_waiting : Int32) (v_t_depth : Int32) (v_t_acts : Int32) (v_t_isWinter : Int32) (v_t_learntNow : Int32) (v_t_forgottenNow : Int32) (v_t_heardMany : Int32) (v_t_its0 : Int32) (v_t_hasImage : Int32) (v_t_imageActs : Int32) (v_t_imageHeard : Int32) (r_t_refused : Nat → Int32) (r_t_rows : Nat → Int32) (r_t_ahead : Nat → Int32) : Prop := ∀ (H : Heap) (locs : List Loc) (ls : Array Slot), va_P E.1 vwCl (w_X12_seek E a_t a_t_refused a_t_rows a_t_ahead a_t_songLong a_t_firstNote a_t_wit a_t_code a_t_tape a_t_newSongLong a_t_newFirstNote a_t_newWit a_t_newRow a_t_readCode a_t_waits a_t_tested a_t_isTold a_t_told a_t_pile a_t_common a_t_mostOf a_t_likes a_t_heard a_t_soon a_t_soonAll a_t_imageRow a_t_imageAhead a_t_imageHears v_t_thrown v_t_songs v_t_people v_t_forgetsAt v_t_fillsAt v_t_taped v_t_faultKind v_t_faultPlace v_t_long1 v_t_next0 v_t_sort v_t_place v_t_long0 v_t_value v_t_sign v_t_word v_t_newSongs v_t_newPeople v_t_newForgetsAt v_t_newFillsAt v_t_top v_t_firstValue v_t_lastValue v_t_waiting v_t_depth v_t_acts v_t_isWinter v_t_learntNow v_t_forgottenNow v_t_heardMany v_t_its0 v_t_hasImage v_t_imageActs v_t_imageHeard r_t_refused r_t_rows r_t_ahead) H → va_D A (w_X12_seek E a_t a_t_refused a_t_rows a_t_ahead a_t_songLong a_t_firstNote a_t_wit a_t_code a_t_tape a_t_newSongLong a_t_newFirstNote a_t_newWit a_t_newRow a_t_readCode a_t_waits a_t_tested a_t_isTold a_t_told a_t_pile a_t_common a_t_mostOf a_t_likes a_t_heard a_t_soon a_t_soonAll a_t_imageRow a_t_imageAhead a_t_imageHears v_t_thrown v_t_songs v_t_people v_t_forgetsAt v_t_fillsAt v_t_taped v_t_faultKind v_t_faultPlace v_t_long1 v_t_next0 v_t_sort v_t_place v_t_long0 v_t_value v_t_sign v_t_word v_t_newSongs v_t_newPeople v_t_newForgetsAt v_t_newFillsAt v_t_top v_t_firstValue v_t_lastValue v_t_waiting v_t_depth v_t_acts v_t_isWinter v_t_learntNow v_t_forgottenNow v_t_heardMany v_t_its0 v_t_hasImage v_t_imageActs v_t_imageHeard r_t_refused r_t_rows r_t_ahead) → va_S A s.heap H locs → lv_has ls 5 [(0, .ref a_t)] → W p l e rm_X12_seek s m args below meth c H locs 0 0 Q (F0 m 100 ls [])
def S_X12_seek_114 (p : Program) (l : Launch) (e : Env) (s : State) (m : MethodId) (args : Array Value) (below : List Frame) (meth : Method) (c : Code) (Q : State → Prop) (a_t a_t_refused a_t_rows a_t_ahead a_t_songLong a_t_firstNote a_t_wit a_t_code a_t_tape a_t_newSongLong a_t_newFirstNote a_t_newWit a_t_newRow a_t_readCode a_t_waits a_t_tested a_t_isTold a_t_told a_t_pile a_t_common a_t_mostOf a_t_likes a_t_heard a_t_soon a_t_soonAll a_t_imageRow a_t_imageAhead a_t_imageHears : Nat) (E : gs_E) (A : Nat → Prop) (v_t_thrown : Int32) (v_t_songs : Int32) (v_t_people : Int32) (v_t_forgetsAt : Int32) (v_t_fillsAt : Int32) (v_t_taped : Int32) (v_t_faultKind : Int32) (v_t_faultPlace : Int32) (v_t_long1 : Int32) (v_t_next0 : Int32) (v_t_sort : Int32) (v_t_place : Int32) (v_t_long0 : Int32) (v_t_value : Int32) (v_t_sign : Int32) (v_t_word : Int64) (v_t_newSongs : Int32) (v_t_newPeople : Int32) (v_t_newForgetsAt : Int32) (v_t_newFillsAt : Int32) (v_t_top : Int32) (v_t_firstValue : Int32) (v_t_lastValue : Int32) (v_t_waiting : Int32) (v_t_depth : Int32) (v_t_acts : Int32) (v_t_isWinter : Int32) (v_t_learntNow : Int32) (v_t_forgottenNow : Int32) (v_t_heardMany : Int32) (v_t_its0 : Int32) (v_t_hasImage : Int32) (v_t_imageActs : Int32) (v_t_imageHeard : Int32) (r_t_refused : Nat → Int32) (r_t_rows : Nat → Int32) (r_t_ahead : Nat → Int32) (x1 : Int32) (x3 : Int32) (x4 : Int32) : Prop := ∀ (H : Heap) (locs : List Loc) (ls : Array Slot), va_P E.1 vwCl (w_X12_seek E a_t a_t_refused a_t_rows a_t_ahead a_t_songLong a_t_firstNote a_t_wit a_t_code a_t_tape a_t_newSongLong a_t_newFirstNote a_t_newWit a_t_newRow a_t_readCode a_t_waits a_t_tested a_t_isTold a_t_told a_t_pile a_t_common a_t_mostOf a_t_likes a_t_heard a_t_soon a_t_soonAll a_t_imageRow a_t_imageAhead a_t_imageHears v_t_thrown v_t_songs v_t_people v_t_forgetsAt v_t_fillsAt v_t_taped v_t_faultKind v_t_faultPlace v_t_long1 v_t_next0 v_t_sort v_t_place v_t_long0 v_t_value v_t_sign v_t_word v_t_newSongs v_t_newPeople v_t_newForgetsAt v_t_newFillsAt v_t_top v_t_firstValue v_t_lastValue v_t_waiting v_t_depth v_t_acts v_t_isWinter v_t_learntNow v_t_forgottenNow v_t_heardMany v_t_its0 v_t_hasImage v_t_imageActs v_t_imageHeard r_t_refused r_t_rows r_t_ahead) H → va_D A (w_X12_seek E a_t a_t_refused a_t_rows a_t_ahead a_t_songLong a_t_firstNote a_t_wit a_t_code a_t_tape a_t_newSongLong a_t_newFirstNote a_t_newWit a_t_newRow a_t_readCode a_t_waits a_t_tested a_t_isTold a_t_told a_t_pile a_t_common a_t_mostOf a_t_likes a_t_heard a_t_soon a_t_soonAll a_t_imageRow a_t_imageAhead a_t_imageHears v_t_thrown v_t_songs v_t_people v_t_forgetsAt v_t_fillsAt v_t_taped v_t_faultKind v_t_faultPlace v_t_long1 v_t_next0 v_t_sort v_t_place v_t_long0 v_t_value v_t_sign v_t_word v_t_newSongs v_t_newPeople v_t_newForgetsAt v_t_newFillsAt v_t_top v_t_firstValue v_t_lastValue v_t_waiting v_t_depth v_t_acts v_t_isWinter v_t_learntNow v_t_forgottenNow v_t_heardMany v_t_its0 v_t_hasImage v_t_imageActs v_t_imageHeard r_t_refused r_t_rows r_t_ahead) → va_S A s.heap H locs → lv_has ls 5 [(0, .ref a_t), (1, .int x1), (3, .int x3), (4, .int x4)] → W p l e rm_X12_seek s m args below meth c H locs 0 0 Q (F0 m 114 ls [])
def f_X12_seek_100 (v_t_thrown : Int32) (v_t_acts : Int32) (r_t_refused : Nat → Int32) (r_t_rows : Nat → Int32) (r_t_ahead : Nat → Int32) : Option (Int32 × Int32 × Int32 × (Nat → Int32) × (Nat → Int32) × (Nat → Int32)) :=
  gs_b2 (f_X12_refuses 1 r_t_refused) fun r9 o9_0 =>
  if r9 ≤ 0 then
    some (0, v_t_thrown, v_t_acts, o9_0, r_t_rows, r_t_ahead)
  else
    some (1, v_t_thrown, v_t_acts, o9_0, r_t_rows, r_t_ahead)
set_option maxHeartbeats 4000000 in
set_option maxRecDepth 100000 in
theorem t_X12_seek_100 {p : Program} {l : Launch} {e : Env} {s : State} {m : MethodId} {args : Array Value} {below : List Frame} {meth : Method} {c : Code} {Q : State → Prop} {E : gs_E} {A : Nat → Prop} {a_t a_t_refused a_t_rows a_t_ahead a_t_songLong a_t_firstNote a_t_wit a_t_code a_t_tape a_t_newSongLong a_t_newFirstNote a_t_newWit a_t_newRow a_t_readCode a_t_waits a_t_tested a_t_isTold a_t_told a_t_pile a_t_common a_t_mostOf a_t_likes a_t_heard a_t_soon a_t_soonAll a_t_imageRow a_t_imageAhead a_t_imageHears : Nat} {rr : Int32} {o_t_thrown : Int32} {o_t_acts : Int32} {o_t_refused : Nat → Int32} {o_t_rows : Nat → Int32} {o_t_ahead : Nat → Int32} (X0 : gs_X wsX12_seek cX12_seek RX12 5 (some .boolean) p s m args meth c) (hk : gs_K E s) {v_t_thrown : Int32} {v_t_songs : Int32} {v_t_people : Int32} {v_t_forgetsAt : Int32} {v_t_fillsAt : Int32} {v_t_taped : Int32} {v_t_faultKind : Int32} {v_t_faultPlace : Int32} {v_t_long1 : Int32} {v_t_next0 : Int32} {v_t_sort : Int32} {v_t_place : Int32} {v_t_long0 : Int32} {v_t_value : Int32} {v_t_sign : Int32} {v_t_word : Int64} {v_t_newSongs : Int32} {v_t_newPeople : Int32} {v_t_newForgetsAt : Int32} {v_t_newFillsAt : Int32} {v_t_top : Int32} {v_t_firstValue : Int32} {v_t_lastValue : Int32} {v_t_waiting : Int32} {v_t_depth : Int32} {v_t_acts : Int32} {v_t_isWinter : Int32} {v_t_learntNow : Int32} {v_t_forgottenNow : Int32} {v_t_heardMany : Int32} {v_t_its0 : Int32} {v_t_hasImage : Int32} {v_t_imageActs : Int32} {v_t_imageHeard : Int32} {r_t_refused : Nat → Int32} {r_t_rows : Nat → Int32} {r_t_ahead : Nat → Int32} (hret : ∀ (H : Heap) (locs : List Loc) (pc : Nat) (ls : Array Slot), va_P E.1 vwCl (w_X12_seek E a_t a_t_refused a_t_rows a_t_ahead a_t_songLong a_t_firstNote a_t_wit a_t_code a_t_tape a_t_newSongLong a_t_newFirstNote a_t_newWit a_t_newRow a_t_readCode a_t_waits a_t_tested a_t_isTold a_t_told a_t_pile a_t_common a_t_mostOf a_t_likes a_t_heard a_t_soon a_t_soonAll a_t_imageRow a_t_imageAhead a_t_imageHears o_t_thrown v_t_songs v_t_people v_t_forgetsAt v_t_fillsAt v_t_taped v_t_faultKind v_t_faultPlace v_t_long1 v_t_next0 v_t_sort v_t_place v_t_long0 v_t_value v_t_sign v_t_word v_t_newSongs v_t_newPeople v_t_newForgetsAt v_t_newFillsAt v_t_top v_t_firstValue v_t_lastValue v_t_waiting v_t_depth o_t_acts v_t_isWinter v_t_learntNow v_t_forgottenNow v_t_heardMany v_t_its0 v_t_hasImage v_t_imageActs v_t_imageHeard o_t_refused o_t_rows o_t_ahead) H → va_S A s.heap H locs → narrow .boolean (.int rr) = .int rr → decode cX12_seek pc = .ok (.ireturn, 1) → W p l e rm_X12_seek s m args below meth c H locs 0 0 Q (F0 m pc ls [.int rr])) (h : f_X12_seek_100 v_t_thrown v_t_acts r_t_refused r_t_rows r_t_ahead = some (rr, o_t_thrown, o_t_acts, o_t_refused, o_t_rows, o_t_ahead)) : S_X12_seek_100 p l e s m args below meth c Q a_t a_t_refused a_t_rows a_t_ahead a_t_songLong a_t_firstNote a_t_wit a_t_code a_t_tape a_t_newSongLong a_t_newFirstNote a_t_newWit a_t_newRow a_t_readCode a_t_waits a_t_tested a_t_isTold a_t_told a_t_pile a_t_common a_t_mostOf a_t_likes a_t_heard a_t_soon a_t_soonAll a_t_imageRow a_t_imageAhead a_t_imageHears E A v_t_thrown v_t_songs v_t_people v_t_forgetsAt v_t_fillsAt v_t_taped v_t_faultKind v_t_faultPlace v_t_long1 v_t_next0 v_t_sort v_t_place v_t_long0 v_t_value v_t_sign v_t_word v_t_newSongs v_t_newPeople v_t_newForgetsAt v_t_newFillsAt v_t_top v_t_firstValue v_t_lastValue v_t_waiting v_t_depth v_t_acts v_t_isWinter v_t_learntNow v_t_forgottenNow v_t_heardMany v_t_its0 v_t_hasImage v_t_imageActs v_t_imageHeard r_t_refused r_t_rows r_t_ahead := by
  obtain ⟨hx, hb, hml, hown, hts, hr, hlk⟩ := id X0
  intro H locs ls hP hD hS hl
  unfold f_X12_seek_100 at h
  refine lv_aload_n hx hb dX12_seek_100 rfl (lv_at hl 0 rfl) ?_
  refine lv_iconst (v := 1) hx hb dX12_seek_101 (by decide) ?_
  obtain ⟨r9, o9_0, hz9, h⟩ := gs_b2_e h
  refine gs_backWi (ws1 := (w_X12_seek E a_t a_t_refused a_t_rows a_t_ahead a_t_songLong a_t_firstNote a_t_wit a_t_code a_t_tape a_t_newSongLong a_t_newFirstNote a_t_newWit a_t_newRow a_t_readCode a_t_waits a_t_tested a_t_isTold a_t_told a_t_pile a_t_common a_t_mostOf a_t_likes a_t_heard a_t_soon a_t_soonAll a_t_imageRow a_t_imageAhead a_t_imageHears v_t_thrown v_t_songs v_t_people v_t_forgetsAt v_t_fillsAt v_t_taped v_t_faultKind v_t_faultPlace v_t_long1 v_t_next0 v_t_sort v_t_place v_t_long0 v_t_value v_t_sign v_t_word v_t_newSongs v_t_newPeople v_t_newForgetsAt v_t_newFillsAt v_t_top v_t_firstValue v_t_lastValue v_t_waiting v_t_depth v_t_acts v_t_isWinter v_t_learntNow v_t_forgottenNow v_t_heardMany v_t_its0 v_t_hasImage v_t_imageActs v_t_imageHeard o9_0 r_t_rows r_t_ahead)) (va_runV (As := [.int 1]) (rest := []) ⟨hx, hb, hml, hown, hts⟩ (c_X12_refuses l E a_t a_t_refused a_t_songLong a_t_firstNote a_t_wit a_t_code a_t_tape a_t_newSongLong a_t_newFirstNote a_t_newWit a_t_newRow a_t_readCode a_t_waits a_t_tested a_t_isTold a_t_rows a_t_ahead a_t_told a_t_pile a_t_common a_t_mostOf a_t_likes a_t_heard a_t_soon a_t_soonAll a_t_imageRow a_t_imageAhead a_t_imageHears v_t_thrown v_t_songs v_t_people v_t_forgetsAt v_t_fillsAt v_t_taped v_t_faultKind v_t_faultPlace v_t_long1 v_t_next0 v_t_sort v_t_place v_t_long0 v_t_value v_t_sign v_t_word v_t_newSongs v_t_newPeople v_t_newForgetsAt v_t_newFillsAt v_t_top v_t_firstValue v_t_lastValue v_t_waiting v_t_depth v_t_acts v_t_isWinter v_t_learntNow v_t_forgottenNow v_t_heardMany v_t_its0 v_t_hasImage v_t_imageActs v_t_imageHeard r_t_refused 1 r9 o9_0 hz9) (cwV 1 hts gX12_seek_X12_refuses rfl rfl rfl (by decide +kernel) ⟨Nat.le_of_ble_eq_true rfl, Nat.le_of_ble_eq_true rfl⟩) (gs_preV (ci := 12) hk hP hD (is := [0, 1]) rfl rfl rfl rfl) rfl rfl hl.1 rfl (lv_room (Nat.le_of_ble_eq_true rfl)) dX12_seek_102 ⟨Nat.zero_le _, Nat.zero_le _⟩) hP hD hS [0, 1] rfl rfl rfl rfl (fun H locs hP hD hS => ?_)
  refine lv_if_le (tgt := 112) hx hb dX12_seek_105 (by decide) (fun c10 => ?_) (fun c10 => ?_)
  · replace h := gs_ift c10 h
    refine lv_iconst (v := 0) hx hb dX12_seek_112 (by decide) ?_
    have h := Option.some.inj h
    obtain ⟨w0, h⟩ := Prod.mk.inj h
    obtain ⟨w1, h⟩ := Prod.mk.inj h
    obtain ⟨w2, h⟩ := Prod.mk.inj h
    obtain ⟨w3, h⟩ := Prod.mk.inj h
    obtain ⟨w4, h⟩ := Prod.mk.inj h
    subst h
    subst w0
    subst w1
    subst w2
    subst w3
    subst w4
    exact hret _ _ _ _ hP hS rfl dX12_seek_113
  · replace h := gs_iff c10 h
    refine lv_iconst (v := 1) hx hb dX12_seek_108 (by decide) ?_
    refine lv_goto (tgt := 113) hx hb dX12_seek_109 (by decide) ?_
    have h := Option.some.inj h
    obtain ⟨w0, h⟩ := Prod.mk.inj h
    obtain ⟨w1, h⟩ := Prod.mk.inj h
    obtain ⟨w2, h⟩ := Prod.mk.inj h
    obtain ⟨w3, h⟩ := Prod.mk.inj h
    obtain ⟨w4, h⟩ := Prod.mk.inj h
    subst h
    subst w0
    subst w1
    subst w2
    subst w3
    subst w4
    exact hret _ _ _ _ hP hS rfl dX12_seek_113
def f_X12_seek_114 (x1 : Int32) (x3 : Int32) (x4 : Int32) (v_t_thrown : Int32) (v_t_acts : Int32) (r_t_refused : Nat → Int32) (r_t_rows : Nat → Int32) (r_t_ahead : Nat → Int32) : Option (Int32 × Int32 × Int32 × (Nat → Int32) × (Nat → Int32) × (Nat → Int32)) :=
  gs_b2 (f_X12_keeps v_t_acts r_t_rows r_t_ahead) fun o13_0 o13_1 =>
  gs_gd (gs_in (351 + x1) 744) <|
  gs_gd (gs_in (358 + x1) 744) <|
  some (1, v_t_thrown, o13_0, r_t_refused, upd (upd r_t_rows (351 + x1).toNatClampNeg x4) (358 + x1).toNatClampNeg x3, o13_1)
set_option maxHeartbeats 4000000 in
set_option maxRecDepth 100000 in
theorem t_X12_seek_114 {p : Program} {l : Launch} {e : Env} {s : State} {m : MethodId} {args : Array Value} {below : List Frame} {meth : Method} {c : Code} {Q : State → Prop} {E : gs_E} {A : Nat → Prop} {a_t a_t_refused a_t_rows a_t_ahead a_t_songLong a_t_firstNote a_t_wit a_t_code a_t_tape a_t_newSongLong a_t_newFirstNote a_t_newWit a_t_newRow a_t_readCode a_t_waits a_t_tested a_t_isTold a_t_told a_t_pile a_t_common a_t_mostOf a_t_likes a_t_heard a_t_soon a_t_soonAll a_t_imageRow a_t_imageAhead a_t_imageHears : Nat} {rr : Int32} {o_t_thrown : Int32} {o_t_acts : Int32} {o_t_refused : Nat → Int32} {o_t_rows : Nat → Int32} {o_t_ahead : Nat → Int32} (X0 : gs_X wsX12_seek cX12_seek RX12 5 (some .boolean) p s m args meth c) (hk : gs_K E s) {v_t_thrown : Int32} {v_t_songs : Int32} {v_t_people : Int32} {v_t_forgetsAt : Int32} {v_t_fillsAt : Int32} {v_t_taped : Int32} {v_t_faultKind : Int32} {v_t_faultPlace : Int32} {v_t_long1 : Int32} {v_t_next0 : Int32} {v_t_sort : Int32} {v_t_place : Int32} {v_t_long0 : Int32} {v_t_value : Int32} {v_t_sign : Int32} {v_t_word : Int64} {v_t_newSongs : Int32} {v_t_newPeople : Int32} {v_t_newForgetsAt : Int32} {v_t_newFillsAt : Int32} {v_t_top : Int32} {v_t_firstValue : Int32} {v_t_lastValue : Int32} {v_t_waiting : Int32} {v_t_depth : Int32} {v_t_acts : Int32} {v_t_isWinter : Int32} {v_t_learntNow : Int32} {v_t_forgottenNow : Int32} {v_t_heardMany : Int32} {v_t_its0 : Int32} {v_t_hasImage : Int32} {v_t_imageActs : Int32} {v_t_imageHeard : Int32} {r_t_refused : Nat → Int32} {r_t_rows : Nat → Int32} {r_t_ahead : Nat → Int32} {x1 : Int32} {x3 : Int32} {x4 : Int32} (hret : ∀ (H : Heap) (locs : List Loc) (pc : Nat) (ls : Array Slot), va_P E.1 vwCl (w_X12_seek E a_t a_t_refused a_t_rows a_t_ahead a_t_songLong a_t_firstNote a_t_wit a_t_code a_t_tape a_t_newSongLong a_t_newFirstNote a_t_newWit a_t_newRow a_t_readCode a_t_waits a_t_tested a_t_isTold a_t_told a_t_pile a_t_common a_t_mostOf a_t_likes a_t_heard a_t_soon a_t_soonAll a_t_imageRow a_t_imageAhead a_t_imageHears o_t_thrown v_t_songs v_t_people v_t_forgetsAt v_t_fillsAt v_t_taped v_t_faultKind v_t_faultPlace v_t_long1 v_t_next0 v_t_sort v_t_place v_t_long0 v_t_value v_t_sign v_t_word v_t_newSongs v_t_newPeople v_t_newForgetsAt v_t_newFillsAt v_t_top v_t_firstValue v_t_lastValue v_t_waiting v_t_depth o_t_acts v_t_isWinter v_t_learntNow v_t_forgottenNow v_t_heardMany v_t_its0 v_t_hasImage v_t_imageActs v_t_imageHeard o_t_refused o_t_rows o_t_ahead) H → va_S A s.heap H locs → narrow .boolean (.int rr) = .int rr → decode cX12_seek pc = .ok (.ireturn, 1) → W p l e rm_X12_seek s m args below meth c H locs 0 0 Q (F0 m pc ls [.int rr])) (h : f_X12_seek_114 x1 x3 x4 v_t_thrown v_t_acts r_t_refused r_t_rows r_t_ahead = some (rr, o_t_thrown, o_t_acts, o_t_refused, o_t_rows, o_t_ahead)) : S_X12_seek_114 p l e s m args below meth c Q a_t a_t_refused a_t_rows a_t_ahead a_t_songLong a_t_firstNote a_t_wit a_t_code a_t_tape a_t_newSongLong a_t_newFirstNote a_t_newWit a_t_newRow a_t_readCode a_t_waits a_t_tested a_t_isTold a_t_told a_t_pile a_t_common a_t_mostOf a_t_likes a_t_heard a_t_soon a_t_soonAll a_t_imageRow a_t_imageAhead a_t_imageHears E A v_t_thrown v_t_songs v_t_people v_t_forgetsAt v_t_fillsAt v_t_taped v_t_faultKind v_t_faultPlace v_t_long1 v_t_next0 v_t_sort v_t_place v_t_long0 v_t_value v_t_sign v_t_word v_t_newSongs v_t_newPeople v_t_newForgetsAt v_t_newFillsAt v_t_top v_t_firstValue v_t_lastValue v_t_waiting v_t_depth v_t_acts v_t_isWinter v_t_learntNow v_t_forgottenNow v_t_heardMany v_t_its0 v_t_hasImage v_t_imageActs v_t_imageHeard r_t_refused r_t_rows r_t_ahead x1 x3 x4 := by
  obtain ⟨hx, hb, hml, hown, hts, hr, hlk⟩ := id X0
  intro H locs ls hP hD hS hl
  unfold f_X12_seek_114 at h
  refine lv_aload_n hx hb dX12_seek_114 rfl (lv_at hl 0 rfl) ?_
  obtain ⟨o13_0, o13_1, hz13, h⟩ := gs_b2_e h
  refine gs_backWv (ws1 := (w_X12_seek E a_t a_t_refused a_t_rows a_t_ahead a_t_songLong a_t_firstNote a_t_wit a_t_code a_t_tape a_t_newSongLong a_t_newFirstNote a_t_newWit a_t_newRow a_t_readCode a_t_waits a_t_tested a_t_isTold a_t_told a_t_pile a_t_common a_t_mostOf a_t_likes a_t_heard a_t_soon a_t_soonAll a_t_imageRow a_t_imageAhead a_t_imageHears v_t_thrown v_t_songs v_t_people v_t_forgetsAt v_t_fillsAt v_t_taped v_t_faultKind v_t_faultPlace v_t_long1 v_t_next0 v_t_sort v_t_place v_t_long0 v_t_value v_t_sign v_t_word v_t_newSongs v_t_newPeople v_t_newForgetsAt v_t_newFillsAt v_t_top v_t_firstValue v_t_lastValue v_t_waiting v_t_depth o13_0 v_t_isWinter v_t_learntNow v_t_forgottenNow v_t_heardMany v_t_its0 v_t_hasImage v_t_imageActs v_t_imageHeard r_t_refused r_t_rows o13_1)) (va_runV (As := []) (rest := []) ⟨hx, hb, hml, hown, hts⟩ (c_X12_keeps l E a_t a_t_rows a_t_ahead a_t_songLong a_t_firstNote a_t_wit a_t_code a_t_tape a_t_refused a_t_newSongLong a_t_newFirstNote a_t_newWit a_t_newRow a_t_readCode a_t_waits a_t_tested a_t_isTold a_t_told a_t_pile a_t_common a_t_mostOf a_t_likes a_t_heard a_t_soon a_t_soonAll a_t_imageRow a_t_imageAhead a_t_imageHears v_t_thrown v_t_songs v_t_people v_t_forgetsAt v_t_fillsAt v_t_taped v_t_faultKind v_t_faultPlace v_t_long1 v_t_next0 v_t_sort v_t_place v_t_long0 v_t_value v_t_sign v_t_word v_t_newSongs v_t_newPeople v_t_newForgetsAt v_t_newFillsAt v_t_top v_t_firstValue v_t_lastValue v_t_waiting v_t_depth v_t_acts v_t_isWinter v_t_learntNow v_t_forgottenNow v_t_heardMany v_t_its0 v_t_hasImage v_t_imageActs v_t_imageHeard r_t_rows r_t_ahead o13_0 o13_1 hz13) (cwV 0 hts gX12_seek_X12_keeps rfl rfl rfl (by decide +kernel) ⟨Nat.le_of_ble_eq_true rfl, Nat.le_of_ble_eq_true rfl⟩) (gs_preV (ci := 12) hk hP hD (is := [0, 2, 3]) rfl rfl rfl rfl) rfl rfl hl.1 rfl (lv_room (Nat.le_of_ble_eq_true rfl)) dX12_seek_115 ⟨Nat.zero_le _, Nat.zero_le _⟩) hP hD hS [0, 2, 3] rfl rfl rfl rfl (fun H locs hP hD hS => ?_)
  refine lv_aload_n hx hb dX12_seek_118 rfl (lv_at hl 0 rfl) ?_
  refine va_get (D := E.1) (ci := 12) (v := .ref a_t_rows) (C := RX12) (T := TX12) (N := 61) hx hb hts (fun _ h => (List.mem_cons_of_mem _ (List.mem_append_right _ h))) hown hk.1 hP 0 rfl rfl 39 (by decide) (hts (.fieldLink RX12 63 "GapSongsModel" "rows" "[I") (List.mem_cons_of_mem _ (List.mem_append_left _ (List.mem_append_left _ (List.mem_of_getElem? (i := 2) rfl))))) (fun _ h9 => h9) rfl dX12_seek_119 ?_
  refine lv_sipush (v := 351) hx hb dX12_seek_122 (by decide) ?_
  refine lv_iload_n hx hb dX12_seek_125 rfl (lv_at hl 1 rfl) ?_
  refine lv_iadd hx hb dX12_seek_126 ?_
  refine lv_iload hx hb dX12_seek_127 (lv_at hl 3 rfl) ?_
  obtain ⟨g14, h⟩ := gs_gd_e h
  refine va_iast hx hb hk.1 hP hD hS 2 0 rfl rfl (gs_in_e g14) dX12_seek_129 (fun H locs hP hD hS => ?_)
  have hP : va_P E.1 vwCl (w_X12_seek E a_t a_t_refused a_t_rows a_t_ahead a_t_songLong a_t_firstNote a_t_wit a_t_code a_t_tape a_t_newSongLong a_t_newFirstNote a_t_newWit a_t_newRow a_t_readCode a_t_waits a_t_tested a_t_isTold a_t_told a_t_pile a_t_common a_t_mostOf a_t_likes a_t_heard a_t_soon a_t_soonAll a_t_imageRow a_t_imageAhead a_t_imageHears v_t_thrown v_t_songs v_t_people v_t_forgetsAt v_t_fillsAt v_t_taped v_t_faultKind v_t_faultPlace v_t_long1 v_t_next0 v_t_sort v_t_place v_t_long0 v_t_value v_t_sign v_t_word v_t_newSongs v_t_newPeople v_t_newForgetsAt v_t_newFillsAt v_t_top v_t_firstValue v_t_lastValue v_t_waiting v_t_depth o13_0 v_t_isWinter v_t_learntNow v_t_forgottenNow v_t_heardMany v_t_its0 v_t_hasImage v_t_imageActs v_t_imageHeard r_t_refused (upd r_t_rows (351 + x1).toNatClampNeg x4) o13_1) H := hP
  have hD : va_D A (w_X12_seek E a_t a_t_refused a_t_rows a_t_ahead a_t_songLong a_t_firstNote a_t_wit a_t_code a_t_tape a_t_newSongLong a_t_newFirstNote a_t_newWit a_t_newRow a_t_readCode a_t_waits a_t_tested a_t_isTold a_t_told a_t_pile a_t_common a_t_mostOf a_t_likes a_t_heard a_t_soon a_t_soonAll a_t_imageRow a_t_imageAhead a_t_imageHears v_t_thrown v_t_songs v_t_people v_t_forgetsAt v_t_fillsAt v_t_taped v_t_faultKind v_t_faultPlace v_t_long1 v_t_next0 v_t_sort v_t_place v_t_long0 v_t_value v_t_sign v_t_word v_t_newSongs v_t_newPeople v_t_newForgetsAt v_t_newFillsAt v_t_top v_t_firstValue v_t_lastValue v_t_waiting v_t_depth o13_0 v_t_isWinter v_t_learntNow v_t_forgottenNow v_t_heardMany v_t_its0 v_t_hasImage v_t_imageActs v_t_imageHeard r_t_refused (upd r_t_rows (351 + x1).toNatClampNeg x4) o13_1) := hD
  refine lv_aload_n hx hb dX12_seek_130 rfl (lv_at hl 0 rfl) ?_
  refine va_get (D := E.1) (ci := 12) (v := .ref a_t_rows) (C := RX12) (T := TX12) (N := 61) hx hb hts (fun _ h => (List.mem_cons_of_mem _ (List.mem_append_right _ h))) hown hk.1 hP 0 rfl rfl 39 (by decide) (hts (.fieldLink RX12 63 "GapSongsModel" "rows" "[I") (List.mem_cons_of_mem _ (List.mem_append_left _ (List.mem_append_left _ (List.mem_of_getElem? (i := 2) rfl))))) (fun _ h9 => h9) rfl dX12_seek_131 ?_
  refine lv_sipush (v := 358) hx hb dX12_seek_134 (by decide) ?_
  refine lv_iload_n hx hb dX12_seek_137 rfl (lv_at hl 1 rfl) ?_
  refine lv_iadd hx hb dX12_seek_138 ?_
  refine lv_iload_n hx hb dX12_seek_139 rfl (lv_at hl 2 rfl) ?_
  obtain ⟨g15, h⟩ := gs_gd_e h
  refine va_iast hx hb hk.1 hP hD hS 2 0 rfl rfl (gs_in_e g15) dX12_seek_140 (fun H locs hP hD hS => ?_)
  have hP : va_P E.1 vwCl (w_X12_seek E a_t a_t_refused a_t_rows a_t_ahead a_t_songLong a_t_firstNote a_t_wit a_t_code a_t_tape a_t_newSongLong a_t_newFirstNote a_t_newWit a_t_newRow a_t_readCode a_t_waits a_t_tested a_t_isTold a_t_told a_t_pile a_t_common a_t_mostOf a_t_likes a_t_heard a_t_soon a_t_soonAll a_t_imageRow a_t_imageAhead a_t_imageHears v_t_thrown v_t_songs v_t_people v_t_forgetsAt v_t_fillsAt v_t_taped v_t_faultKind v_t_faultPlace v_t_long1 v_t_next0 v_t_sort v_t_place v_t_long0 v_t_value v_t_sign v_t_word v_t_newSongs v_t_newPeople v_t_newForgetsAt v_t_newFillsAt v_t_top v_t_firstValue v_t_lastValue v_t_waiting v_t_depth o13_0 v_t_isWinter v_t_learntNow v_t_forgottenNow v_t_heardMany v_t_its0 v_t_hasImage v_t_imageActs v_t_imageHeard r_t_refused (upd (upd r_t_rows (351 + x1).toNatClampNeg x4) (358 + x1).toNatClampNeg x3) o13_1) H := hP
  have hD : va_D A (w_X12_seek E a_t a_t_refused a_t_rows a_t_ahead a_t_songLong a_t_firstNote a_t_wit a_t_code a_t_tape a_t_newSongLong a_t_newFirstNote a_t_newWit a_t_newRow a_t_readCode a_t_waits a_t_tested a_t_isTold a_t_told a_t_pile a_t_common a_t_mostOf a_t_likes a_t_heard a_t_soon a_t_soonAll a_t_imageRow a_t_imageAhead a_t_imageHears v_t_thrown v_t_songs v_t_people v_t_forgetsAt v_t_fillsAt v_t_taped v_t_faultKind v_t_faultPlace v_t_long1 v_t_next0 v_t_sort v_t_place v_t_long0 v_t_value v_t_sign v_t_word v_t_newSongs v_t_newPeople v_t_newForgetsAt v_t_newFillsAt v_t_top v_t_firstValue v_t_lastValue v_t_waiting v_t_depth o13_0 v_t_isWinter v_t_learntNow v_t_forgottenNow v_t_heardMany v_t_its0 v_t_hasImage v_t_imageActs v_t_imageHeard r_t_refused (upd (upd r_t_rows (351 + x1).toNatClampNeg x4) (358 + x1).toNatClampNeg x3) o13_1) := hD
  refine lv_iconst (v := 1) hx hb dX12_seek_141 (by decide) ?_
  have h := Option.some.inj h
  obtain ⟨w0, h⟩ := Prod.mk.inj h
  obtain ⟨w1, h⟩ := Prod.mk.inj h
  obtain ⟨w2, h⟩ := Prod.mk.inj h
  obtain ⟨w3, h⟩ := Prod.mk.inj h
  obtain ⟨w4, h⟩ := Prod.mk.inj h
  subst h
  subst w0
  subst w1
  subst w2
  subst w3
  subst w4
  exact hret _ _ _ _ hP hS rfl dX12_seek_142
def f_X12_seek_64 (k0 : Int32) (x1 : Int32) (x3 : Int32) (v_t_thrown : Int32) (v_t_acts : Int32) (r_t_refused : Nat → Int32) (r_t_rows : Nat → Int32) (r_t_ahead : Nat → Int32) : Option (Int32 × Int32 × Int32 × (Nat → Int32) × (Nat → Int32) × (Nat → Int32)) :=
  if x1 = x3 then
    f_X12_seek_100 v_t_thrown v_t_acts r_t_refused r_t_rows r_t_ahead
  else
    gs_gd (gs_in (351 + x1) 744) <|
    if (r_t_rows (351 + x1).toNatClampNeg) = k0 then
      gs_gd (gs_in (358 + x1) 744) <|
      if (r_t_rows (358 + x1).toNatClampNeg) = x3 then
        f_X12_seek_100 v_t_thrown v_t_acts r_t_refused r_t_rows r_t_ahead
      else
        f_X12_seek_114 x1 x3 k0 v_t_thrown v_t_acts r_t_refused r_t_rows r_t_ahead
    else
      f_X12_seek_114 x1 x3 k0 v_t_thrown v_t_acts r_t_refused r_t_rows r_t_ahead
set_option maxHeartbeats 4000000 in
set_option maxRecDepth 100000 in
theorem t_X12_seek_64 {p : Program} {l : Launch} {e : Env} {s : State} {m : MethodId} {args : Array Value} {below : List Frame} {meth : Method} {c : Code} {Q : State → Prop} {E : gs_E} {A : Nat → Prop} {a_t a_t_refused a_t_rows a_t_ahead a_t_songLong a_t_firstNote a_t_wit a_t_code a_t_tape a_t_newSongLong a_t_newFirstNote a_t_newWit a_t_newRow a_t_readCode a_t_waits a_t_tested a_t_isTold a_t_told a_t_pile a_t_common a_t_mostOf a_t_likes a_t_heard a_t_soon a_t_soonAll a_t_imageRow a_t_imageAhead a_t_imageHears : Nat} {rr : Int32} {o_t_thrown : Int32} {o_t_acts : Int32} {o_t_refused : Nat → Int32} {o_t_rows : Nat → Int32} {o_t_ahead : Nat → Int32} (X0 : gs_X wsX12_seek cX12_seek RX12 5 (some .boolean) p s m args meth c) (hk : gs_K E s) {v_t_thrown : Int32} {v_t_songs : Int32} {v_t_people : Int32} {v_t_forgetsAt : Int32} {v_t_fillsAt : Int32} {v_t_taped : Int32} {v_t_faultKind : Int32} {v_t_faultPlace : Int32} {v_t_long1 : Int32} {v_t_next0 : Int32} {v_t_sort : Int32} {v_t_place : Int32} {v_t_long0 : Int32} {v_t_value : Int32} {v_t_sign : Int32} {v_t_word : Int64} {v_t_newSongs : Int32} {v_t_newPeople : Int32} {v_t_newForgetsAt : Int32} {v_t_newFillsAt : Int32} {v_t_top : Int32} {v_t_firstValue : Int32} {v_t_lastValue : Int32} {v_t_waiting : Int32} {v_t_depth : Int32} {v_t_acts : Int32} {v_t_isWinter : Int32} {v_t_learntNow : Int32} {v_t_forgottenNow : Int32} {v_t_heardMany : Int32} {v_t_its0 : Int32} {v_t_hasImage : Int32} {v_t_imageActs : Int32} {v_t_imageHeard : Int32} {r_t_refused : Nat → Int32} {r_t_rows : Nat → Int32} {r_t_ahead : Nat → Int32} {k0 : Int32} {x1 : Int32} {x3 : Int32} (hret : ∀ (H : Heap) (locs : List Loc) (pc : Nat) (ls : Array Slot), va_P E.1 vwCl (w_X12_seek E a_t a_t_refused a_t_rows a_t_ahead a_t_songLong a_t_firstNote a_t_wit a_t_code a_t_tape a_t_newSongLong a_t_newFirstNote a_t_newWit a_t_newRow a_t_readCode a_t_waits a_t_tested a_t_isTold a_t_told a_t_pile a_t_common a_t_mostOf a_t_likes a_t_heard a_t_soon a_t_soonAll a_t_imageRow a_t_imageAhead a_t_imageHears o_t_thrown v_t_songs v_t_people v_t_forgetsAt v_t_fillsAt v_t_taped v_t_faultKind v_t_faultPlace v_t_long1 v_t_next0 v_t_sort v_t_place v_t_long0 v_t_value v_t_sign v_t_word v_t_newSongs v_t_newPeople v_t_newForgetsAt v_t_newFillsAt v_t_top v_t_firstValue v_t_lastValue v_t_waiting v_t_depth o_t_acts v_t_isWinter v_t_learntNow v_t_forgottenNow v_t_heardMany v_t_its0 v_t_hasImage v_t_imageActs v_t_imageHeard o_t_refused o_t_rows o_t_ahead) H → va_S A s.heap H locs → narrow .boolean (.int rr) = .int rr → decode cX12_seek pc = .ok (.ireturn, 1) → W p l e rm_X12_seek s m args below meth c H locs 0 0 Q (F0 m pc ls [.int rr])) (h : f_X12_seek_64 k0 x1 x3 v_t_thrown v_t_acts r_t_refused r_t_rows r_t_ahead = some (rr, o_t_thrown, o_t_acts, o_t_refused, o_t_rows, o_t_ahead)) : S_X12_seek_64 p l e s m args below meth c Q a_t a_t_refused a_t_rows a_t_ahead a_t_songLong a_t_firstNote a_t_wit a_t_code a_t_tape a_t_newSongLong a_t_newFirstNote a_t_newWit a_t_newRow a_t_readCode a_t_waits a_t_tested a_t_isTold a_t_told a_t_pile a_t_common a_t_mostOf a_t_likes a_t_heard a_t_soon a_t_soonAll a_t_imageRow a_t_imageAhead a_t_imageHears E A v_t_thrown v_t_songs v_t_people v_t_forgetsAt v_t_fillsAt v_t_taped v_t_faultKind v_t_faultPlace v_t_long1 v_t_next0 v_t_sort v_t_place v_t_long0 v_t_value v_t_sign v_t_word v_t_newSongs v_t_newPeople v_t_newForgetsAt v_t_newFillsAt v_t_top v_t_firstValue v_t_lastValue v_t_waiting v_t_depth v_t_acts v_t_isWinter v_t_learntNow v_t_forgottenNow v_t_heardMany v_t_its0 v_t_hasImage v_t_imageActs v_t_imageHeard r_t_refused r_t_rows r_t_ahead k0 x1 x3 := by
  obtain ⟨hx, hb, hml, hown, hts, hr, hlk⟩ := id X0
  intro H locs ls hP hD hS hl
  unfold f_X12_seek_64 at h
  refine lv_istore (lv' := [(4, .int k0), (0, .ref a_t), (1, .int x1), (3, .int x3)]) hx hb dX12_seek_64 hl (by decide) rfl (fun ls hl => ?_)
  refine lv_iload_n hx hb dX12_seek_66 rfl (lv_at hl 2 rfl) ?_
  refine lv_iload_n hx hb dX12_seek_67 rfl (lv_at hl 3 rfl) ?_
  refine lv_icmp_eq (tgt := 100) hx hb dX12_seek_68 (by decide) (fun c8 => ?_) (fun c8 => ?_)
  · replace h := gs_ift c8 h
    exact t_X12_seek_100 X0 hk  hret  (h := h) _ _ _ hP hD hS (lv_sub hl [1] rfl)
  · replace h := gs_iff c8 h
    refine lv_aload_n hx hb dX12_seek_71 rfl (lv_at hl 1 rfl) ?_
    refine va_get (D := E.1) (ci := 12) (v := .ref a_t_rows) (C := RX12) (T := TX12) (N := 61) hx hb hts (fun _ h => (List.mem_cons_of_mem _ (List.mem_append_right _ h))) hown hk.1 hP 0 rfl rfl 39 (by decide) (hts (.fieldLink RX12 63 "GapSongsModel" "rows" "[I") (List.mem_cons_of_mem _ (List.mem_append_left _ (List.mem_append_left _ (List.mem_of_getElem? (i := 2) rfl))))) (fun _ h9 => h9) rfl dX12_seek_72 ?_
    refine lv_sipush (v := 351) hx hb dX12_seek_75 (by decide) ?_
    refine lv_iload_n hx hb dX12_seek_78 rfl (lv_at hl 2 rfl) ?_
    refine lv_iadd hx hb dX12_seek_79 ?_
    obtain ⟨g11, h⟩ := gs_gd_e h
    refine va_iald hx hb hk.1 hP 2 0 rfl rfl (gs_in_e g11) dX12_seek_80 ?_
    refine lv_iload hx hb dX12_seek_81 (lv_at hl 0 rfl) ?_
    refine lv_icmp_ne (tgt := 114) hx hb dX12_seek_83 (by decide) (fun c12 => ?_) (fun c12 => ?_)
    · replace h := gs_iff c12 h
      exact t_X12_seek_114 X0 hk  hret  (h := h) _ _ _ hP hD hS (lv_sub hl [1, 2, 3, 0] rfl)
    · replace h := gs_ift c12 h
      refine lv_aload_n hx hb dX12_seek_86 rfl (lv_at hl 1 rfl) ?_
      refine va_get (D := E.1) (ci := 12) (v := .ref a_t_rows) (C := RX12) (T := TX12) (N := 61) hx hb hts (fun _ h => (List.mem_cons_of_mem _ (List.mem_append_right _ h))) hown hk.1 hP 0 rfl rfl 39 (by decide) (hts (.fieldLink RX12 63 "GapSongsModel" "rows" "[I") (List.mem_cons_of_mem _ (List.mem_append_left _ (List.mem_append_left _ (List.mem_of_getElem? (i := 2) rfl))))) (fun _ h9 => h9) rfl dX12_seek_87 ?_
      refine lv_sipush (v := 358) hx hb dX12_seek_90 (by decide) ?_
      refine lv_iload_n hx hb dX12_seek_93 rfl (lv_at hl 2 rfl) ?_
      refine lv_iadd hx hb dX12_seek_94 ?_
      obtain ⟨g16, h⟩ := gs_gd_e h
      refine va_iald hx hb hk.1 hP 2 0 rfl rfl (gs_in_e g16) dX12_seek_95 ?_
      refine lv_iload_n hx hb dX12_seek_96 rfl (lv_at hl 3 rfl) ?_
      refine lv_icmp_ne (tgt := 114) hx hb dX12_seek_97 (by decide) (fun c17 => ?_) (fun c17 => ?_)
      · replace h := gs_iff c17 h
        exact t_X12_seek_114 X0 hk  hret  (h := h) _ _ _ hP hD hS (lv_sub hl [1, 2, 3, 0] rfl)
      · replace h := gs_ift c17 h
        exact t_X12_seek_100 X0 hk  hret  (h := h) _ _ _ hP hD hS (lv_sub hl [1] rfl)
def f_X12_seek_32 (k1 : Int32) (x1 : Int32) (x2 : Int32) (x3 : Int32) (v_t_thrown : Int32) (v_t_songs : Int32) (v_t_acts : Int32) (r_t_refused : Nat → Int32) (r_t_rows : Nat → Int32) (r_t_ahead : Nat → Int32) : Option (Int32 × Int32 × Int32 × (Nat → Int32) × (Nat → Int32) × (Nat → Int32)) :=
  gs_b2 (f_X12_right k1 1 v_t_thrown) fun r4 o4_0 =>
  if r4 = 0 then
    some (0, o4_0, v_t_acts, r_t_refused, r_t_rows, r_t_ahead)
  else
    if x3 = (-1) then
      if x3 = (-1) then
        f_X12_seek_64 (-1) x1 x3 o4_0 v_t_acts r_t_refused r_t_rows r_t_ahead
      else
        f_X12_seek_64 x2 x1 x3 o4_0 v_t_acts r_t_refused r_t_rows r_t_ahead
    else
      gs_b2 (f_X12_isSong x2 o4_0 v_t_songs) fun r18 o18_0 =>
      if r18 = 0 then
        some (0, o18_0, v_t_acts, r_t_refused, r_t_rows, r_t_ahead)
      else
        if x3 = (-1) then
          f_X12_seek_64 (-1) x1 x3 o18_0 v_t_acts r_t_refused r_t_rows r_t_ahead
        else
          f_X12_seek_64 x2 x1 x3 o18_0 v_t_acts r_t_refused r_t_rows r_t_ahead
set_option maxHeartbeats 4000000 in
set_option maxRecDepth 100000 in
theorem t_X12_seek_32 {p : Program} {l : Launch} {e : Env} {s : State} {m : MethodId} {args : Array Value} {below : List Frame} {meth : Method} {c : Code} {Q : State → Prop} {E : gs_E} {A : Nat → Prop} {a_t a_t_refused a_t_rows a_t_ahead a_t_songLong a_t_firstNote a_t_wit a_t_code a_t_tape a_t_newSongLong a_t_newFirstNote a_t_newWit a_t_newRow a_t_readCode a_t_waits a_t_tested a_t_isTold a_t_told a_t_pile a_t_common a_t_mostOf a_t_likes a_t_heard a_t_soon a_t_soonAll a_t_imageRow a_t_imageAhead a_t_imageHears : Nat} {rr : Int32} {o_t_thrown : Int32} {o_t_acts : Int32} {o_t_refused : Nat → Int32} {o_t_rows : Nat → Int32} {o_t_ahead : Nat → Int32} (X0 : gs_X wsX12_seek cX12_seek RX12 5 (some .boolean) p s m args meth c) (hk : gs_K E s) {v_t_thrown : Int32} {v_t_songs : Int32} {v_t_people : Int32} {v_t_forgetsAt : Int32} {v_t_fillsAt : Int32} {v_t_taped : Int32} {v_t_faultKind : Int32} {v_t_faultPlace : Int32} {v_t_long1 : Int32} {v_t_next0 : Int32} {v_t_sort : Int32} {v_t_place : Int32} {v_t_long0 : Int32} {v_t_value : Int32} {v_t_sign : Int32} {v_t_word : Int64} {v_t_newSongs : Int32} {v_t_newPeople : Int32} {v_t_newForgetsAt : Int32} {v_t_newFillsAt : Int32} {v_t_top : Int32} {v_t_firstValue : Int32} {v_t_lastValue : Int32} {v_t_waiting : Int32} {v_t_depth : Int32} {v_t_acts : Int32} {v_t_isWinter : Int32} {v_t_learntNow : Int32} {v_t_forgottenNow : Int32} {v_t_heardMany : Int32} {v_t_its0 : Int32} {v_t_hasImage : Int32} {v_t_imageActs : Int32} {v_t_imageHeard : Int32} {r_t_refused : Nat → Int32} {r_t_rows : Nat → Int32} {r_t_ahead : Nat → Int32} {k1 : Int32} {x1 : Int32} {x2 : Int32} {x3 : Int32} (hret : ∀ (H : Heap) (locs : List Loc) (pc : Nat) (ls : Array Slot), va_P E.1 vwCl (w_X12_seek E a_t a_t_refused a_t_rows a_t_ahead a_t_songLong a_t_firstNote a_t_wit a_t_code a_t_tape a_t_newSongLong a_t_newFirstNote a_t_newWit a_t_newRow a_t_readCode a_t_waits a_t_tested a_t_isTold a_t_told a_t_pile a_t_common a_t_mostOf a_t_likes a_t_heard a_t_soon a_t_soonAll a_t_imageRow a_t_imageAhead a_t_imageHears o_t_thrown v_t_songs v_t_people v_t_forgetsAt v_t_fillsAt v_t_taped v_t_faultKind v_t_faultPlace v_t_long1 v_t_next0 v_t_sort v_t_place v_t_long0 v_t_value v_t_sign v_t_word v_t_newSongs v_t_newPeople v_t_newForgetsAt v_t_newFillsAt v_t_top v_t_firstValue v_t_lastValue v_t_waiting v_t_depth o_t_acts v_t_isWinter v_t_learntNow v_t_forgottenNow v_t_heardMany v_t_its0 v_t_hasImage v_t_imageActs v_t_imageHeard o_t_refused o_t_rows o_t_ahead) H → va_S A s.heap H locs → narrow .boolean (.int rr) = .int rr → decode cX12_seek pc = .ok (.ireturn, 1) → W p l e rm_X12_seek s m args below meth c H locs 0 0 Q (F0 m pc ls [.int rr])) (h : f_X12_seek_32 k1 x1 x2 x3 v_t_thrown v_t_songs v_t_acts r_t_refused r_t_rows r_t_ahead = some (rr, o_t_thrown, o_t_acts, o_t_refused, o_t_rows, o_t_ahead)) : S_X12_seek_32 p l e s m args below meth c Q a_t a_t_refused a_t_rows a_t_ahead a_t_songLong a_t_firstNote a_t_wit a_t_code a_t_tape a_t_newSongLong a_t_newFirstNote a_t_newWit a_t_newRow a_t_readCode a_t_waits a_t_tested a_t_isTold a_t_told a_t_pile a_t_common a_t_mostOf a_t_likes a_t_heard a_t_soon a_t_soonAll a_t_imageRow a_t_imageAhead a_t_imageHears E A v_t_thrown v_t_songs v_t_people v_t_forgetsAt v_t_fillsAt v_t_taped v_t_faultKind v_t_faultPlace v_t_long1 v_t_next0 v_t_sort v_t_place v_t_long0 v_t_value v_t_sign v_t_word v_t_newSongs v_t_newPeople v_t_newForgetsAt v_t_newFillsAt v_t_top v_t_firstValue v_t_lastValue v_t_waiting v_t_depth v_t_acts v_t_isWinter v_t_learntNow v_t_forgottenNow v_t_heardMany v_t_its0 v_t_hasImage v_t_imageActs v_t_imageHeard r_t_refused r_t_rows r_t_ahead k1 x1 x2 x3 := by
  obtain ⟨hx, hb, hml, hown, hts, hr, hlk⟩ := id X0
  intro H locs ls hP hD hS hl
  unfold f_X12_seek_32 at h
  refine lv_iconst (v := 1) hx hb dX12_seek_32 (by decide) ?_
  obtain ⟨r4, o4_0, hz4, h⟩ := gs_b2_e h
  refine gs_backWi (ws1 := (w_X12_seek E a_t a_t_refused a_t_rows a_t_ahead a_t_songLong a_t_firstNote a_t_wit a_t_code a_t_tape a_t_newSongLong a_t_newFirstNote a_t_newWit a_t_newRow a_t_readCode a_t_waits a_t_tested a_t_isTold a_t_told a_t_pile a_t_common a_t_mostOf a_t_likes a_t_heard a_t_soon a_t_soonAll a_t_imageRow a_t_imageAhead a_t_imageHears o4_0 v_t_songs v_t_people v_t_forgetsAt v_t_fillsAt v_t_taped v_t_faultKind v_t_faultPlace v_t_long1 v_t_next0 v_t_sort v_t_place v_t_long0 v_t_value v_t_sign v_t_word v_t_newSongs v_t_newPeople v_t_newForgetsAt v_t_newFillsAt v_t_top v_t_firstValue v_t_lastValue v_t_waiting v_t_depth v_t_acts v_t_isWinter v_t_learntNow v_t_forgottenNow v_t_heardMany v_t_its0 v_t_hasImage v_t_imageActs v_t_imageHeard r_t_refused r_t_rows r_t_ahead)) (va_runV (As := [.int k1, .int 1]) (rest := []) ⟨hx, hb, hml, hown, hts⟩ (c_X12_right l E a_t a_t_songLong a_t_firstNote a_t_wit a_t_code a_t_tape a_t_refused a_t_newSongLong a_t_newFirstNote a_t_newWit a_t_newRow a_t_readCode a_t_waits a_t_tested a_t_isTold a_t_rows a_t_ahead a_t_told a_t_pile a_t_common a_t_mostOf a_t_likes a_t_heard a_t_soon a_t_soonAll a_t_imageRow a_t_imageAhead a_t_imageHears v_t_thrown v_t_songs v_t_people v_t_forgetsAt v_t_fillsAt v_t_taped v_t_faultKind v_t_faultPlace v_t_long1 v_t_next0 v_t_sort v_t_place v_t_long0 v_t_value v_t_sign v_t_word v_t_newSongs v_t_newPeople v_t_newForgetsAt v_t_newFillsAt v_t_top v_t_firstValue v_t_lastValue v_t_waiting v_t_depth v_t_acts v_t_isWinter v_t_learntNow v_t_forgottenNow v_t_heardMany v_t_its0 v_t_hasImage v_t_imageActs v_t_imageHeard k1 1 r4 o4_0 hz4) (cwV 2 hts gX12_seek_X12_right rfl rfl rfl (by decide +kernel) ⟨Nat.le_of_ble_eq_true rfl, Nat.le_of_ble_eq_true rfl⟩) (gs_preV (ci := 12) hk hP hD (is := [0]) rfl rfl rfl rfl) rfl rfl hl.1 rfl (lv_room (Nat.le_of_ble_eq_true rfl)) dX12_seek_33 ⟨Nat.zero_le _, Nat.zero_le _⟩) hP hD hS [0] rfl rfl rfl rfl (fun H locs hP hD hS => ?_)
  refine lv_if_eq (tgt := 52) hx hb dX12_seek_36 (by decide) (fun c5 => ?_) (fun c5 => ?_)
  · replace h := gs_ift c5 h
    refine lv_iconst (v := 0) hx hb dX12_seek_52 (by decide) ?_
    have h := Option.some.inj h
    obtain ⟨w0, h⟩ := Prod.mk.inj h
    obtain ⟨w1, h⟩ := Prod.mk.inj h
    obtain ⟨w2, h⟩ := Prod.mk.inj h
    obtain ⟨w3, h⟩ := Prod.mk.inj h
    obtain ⟨w4, h⟩ := Prod.mk.inj h
    subst h
    subst w0
    subst w1
    subst w2
    subst w3
    subst w4
    exact hret _ _ _ _ hP hS rfl dX12_seek_53
  · replace h := gs_iff c5 h
    refine lv_iload_n hx hb dX12_seek_39 rfl (lv_at hl 3 rfl) ?_
    refine lv_iconst (v := (-1)) hx hb dX12_seek_40 (by decide) ?_
    refine lv_icmp_eq (tgt := 54) hx hb dX12_seek_41 (by decide) (fun c6 => ?_) (fun c6 => ?_)
    · replace h := gs_ift c6 h
      refine lv_iload_n hx hb dX12_seek_54 rfl (lv_at hl 3 rfl) ?_
      refine lv_iconst (v := (-1)) hx hb dX12_seek_55 (by decide) ?_
      refine lv_icmp_ne (tgt := 63) hx hb dX12_seek_56 (by decide) (fun c7 => ?_) (fun c7 => ?_)
      · replace h := gs_iff c7 h
        refine lv_iload_n hx hb dX12_seek_63 rfl (lv_at hl 2 rfl) ?_
        exact t_X12_seek_64 X0 hk  hret  (h := h) _ _ _ hP hD hS (lv_sub hl [0, 1, 3] rfl)
      · replace h := gs_ift c7 h
        refine lv_iconst (v := (-1)) hx hb dX12_seek_59 (by decide) ?_
        refine lv_goto (tgt := 64) hx hb dX12_seek_60 (by decide) ?_
        exact t_X12_seek_64 X0 hk  hret  (h := h) _ _ _ hP hD hS (lv_sub hl [0, 1, 3] rfl)
    · replace h := gs_iff c6 h
      refine lv_aload_n hx hb dX12_seek_44 rfl (lv_at hl 0 rfl) ?_
      refine lv_iload_n hx hb dX12_seek_45 rfl (lv_at hl 2 rfl) ?_
      obtain ⟨r18, o18_0, hz18, h⟩ := gs_b2_e h
      refine gs_backWi (ws1 := (w_X12_seek E a_t a_t_refused a_t_rows a_t_ahead a_t_songLong a_t_firstNote a_t_wit a_t_code a_t_tape a_t_newSongLong a_t_newFirstNote a_t_newWit a_t_newRow a_t_readCode a_t_waits a_t_tested a_t_isTold a_t_told a_t_pile a_t_common a_t_mostOf a_t_likes a_t_heard a_t_soon a_t_soonAll a_t_imageRow a_t_imageAhead a_t_imageHears o18_0 v_t_songs v_t_people v_t_forgetsAt v_t_fillsAt v_t_taped v_t_faultKind v_t_faultPlace v_t_long1 v_t_next0 v_t_sort v_t_place v_t_long0 v_t_value v_t_sign v_t_word v_t_newSongs v_t_newPeople v_t_newForgetsAt v_t_newFillsAt v_t_top v_t_firstValue v_t_lastValue v_t_waiting v_t_depth v_t_acts v_t_isWinter v_t_learntNow v_t_forgottenNow v_t_heardMany v_t_its0 v_t_hasImage v_t_imageActs v_t_imageHeard r_t_refused r_t_rows r_t_ahead)) (va_runV (As := [.int x2]) (rest := []) ⟨hx, hb, hml, hown, hts⟩ (c_X12_isSong l E a_t a_t_songLong a_t_firstNote a_t_wit a_t_code a_t_tape a_t_refused a_t_newSongLong a_t_newFirstNote a_t_newWit a_t_newRow a_t_readCode a_t_waits a_t_tested a_t_isTold a_t_rows a_t_ahead a_t_told a_t_pile a_t_common a_t_mostOf a_t_likes a_t_heard a_t_soon a_t_soonAll a_t_imageRow a_t_imageAhead a_t_imageHears o4_0 v_t_songs v_t_people v_t_forgetsAt v_t_fillsAt v_t_taped v_t_faultKind v_t_faultPlace v_t_long1 v_t_next0 v_t_sort v_t_place v_t_long0 v_t_value v_t_sign v_t_word v_t_newSongs v_t_newPeople v_t_newForgetsAt v_t_newFillsAt v_t_top v_t_firstValue v_t_lastValue v_t_waiting v_t_depth v_t_acts v_t_isWinter v_t_learntNow v_t_forgottenNow v_t_heardMany v_t_its0 v_t_hasImage v_t_imageActs v_t_imageHeard x2 r18 o18_0 hz18) (cwV 1 hts gX12_seek_X12_isSong rfl rfl rfl (by decide +kernel) ⟨Nat.le_of_ble_eq_true rfl, Nat.le_of_ble_eq_true rfl⟩) (gs_preV (ci := 12) hk hP hD (is := [0]) rfl rfl rfl rfl) rfl rfl hl.1 rfl (lv_room (Nat.le_of_ble_eq_true rfl)) dX12_seek_46 ⟨Nat.zero_le _, Nat.zero_le _⟩) hP hD hS [0] rfl rfl rfl rfl (fun H locs hP hD hS => ?_)
      refine lv_if_ne (tgt := 54) hx hb dX12_seek_49 (by decide) (fun c19 => ?_) (fun c19 => ?_)
      · replace h := gs_iff c19 h
        refine lv_iload_n hx hb dX12_seek_54 rfl (lv_at hl 3 rfl) ?_
        refine lv_iconst (v := (-1)) hx hb dX12_seek_55 (by decide) ?_
        refine lv_icmp_ne (tgt := 63) hx hb dX12_seek_56 (by decide) (fun c20 => ?_) (fun c20 => ?_)
        · replace h := gs_iff c20 h
          refine lv_iload_n hx hb dX12_seek_63 rfl (lv_at hl 2 rfl) ?_
          exact t_X12_seek_64 X0 hk  hret  (h := h) _ _ _ hP hD hS (lv_sub hl [0, 1, 3] rfl)
        · replace h := gs_ift c20 h
          refine lv_iconst (v := (-1)) hx hb dX12_seek_59 (by decide) ?_
          refine lv_goto (tgt := 64) hx hb dX12_seek_60 (by decide) ?_
          exact t_X12_seek_64 X0 hk  hret  (h := h) _ _ _ hP hD hS (lv_sub hl [0, 1, 3] rfl)
      · replace h := gs_ift c19 h
        refine lv_iconst (v := 0) hx hb dX12_seek_52 (by decide) ?_
        have h := Option.some.inj h
        obtain ⟨w0, h⟩ := Prod.mk.inj h
        obtain ⟨w1, h⟩ := Prod.mk.inj h
        obtain ⟨w2, h⟩ := Prod.mk.inj h
        obtain ⟨w3, h⟩ := Prod.mk.inj h
        obtain ⟨w4, h⟩ := Prod.mk.inj h
        subst h
        subst w0
        subst w1
        subst w2
        subst w3
        subst w4
        exact hret _ _ _ _ hP hS rfl dX12_seek_53
def f_X12_seek (x1 : Int32) (x2 : Int32) (x3 : Int32) (v_t_thrown : Int32) (v_t_songs : Int32) (v_t_people : Int32) (v_t_acts : Int32) (r_t_refused : Nat → Int32) (r_t_rows : Nat → Int32) (r_t_ahead : Nat → Int32) : Option (Int32 × Int32 × Int32 × (Nat → Int32) × (Nat → Int32) × (Nat → Int32)) :=
  gs_b2 (f_X12_isPerson x1 0 v_t_people) fun r1 o1_0 =>
  if r1 = 0 then
    some (0, o1_0, v_t_acts, r_t_refused, r_t_rows, r_t_ahead)
  else
    if x3 < (-1) then
      f_X12_seek_32 0 x1 x2 x3 o1_0 v_t_songs v_t_acts r_t_refused r_t_rows r_t_ahead
    else
      if v_t_people ≤ x3 then
        f_X12_seek_32 0 x1 x2 x3 o1_0 v_t_songs v_t_acts r_t_refused r_t_rows r_t_ahead
      else
        f_X12_seek_32 1 x1 x2 x3 o1_0 v_t_songs v_t_acts r_t_refused r_t_rows r_t_ahead
set_option maxHeartbeats 4000000 in
set_option maxRecDepth 100000 in
theorem c_X12_seek (l : Launch) (E : gs_E) (a_t a_t_refused a_t_rows a_t_ahead a_t_songLong a_t_firstNote a_t_wit a_t_code a_t_tape a_t_newSongLong a_t_newFirstNote a_t_newWit a_t_newRow a_t_readCode a_t_waits a_t_tested a_t_isTold a_t_told a_t_pile a_t_common a_t_mostOf a_t_likes a_t_heard a_t_soon a_t_soonAll a_t_imageRow a_t_imageAhead a_t_imageHears : Nat) (v_t_thrown : Int32) (v_t_songs : Int32) (v_t_people : Int32) (v_t_forgetsAt : Int32) (v_t_fillsAt : Int32) (v_t_taped : Int32) (v_t_faultKind : Int32) (v_t_faultPlace : Int32) (v_t_long1 : Int32) (v_t_next0 : Int32) (v_t_sort : Int32) (v_t_place : Int32) (v_t_long0 : Int32) (v_t_value : Int32) (v_t_sign : Int32) (v_t_word : Int64) (v_t_newSongs : Int32) (v_t_newPeople : Int32) (v_t_newForgetsAt : Int32) (v_t_newFillsAt : Int32) (v_t_top : Int32) (v_t_firstValue : Int32) (v_t_lastValue : Int32) (v_t_waiting : Int32) (v_t_depth : Int32) (v_t_acts : Int32) (v_t_isWinter : Int32) (v_t_learntNow : Int32) (v_t_forgottenNow : Int32) (v_t_heardMany : Int32) (v_t_its0 : Int32) (v_t_hasImage : Int32) (v_t_imageActs : Int32) (v_t_imageHeard : Int32) (r_t_refused : Nat → Int32) (r_t_rows : Nat → Int32) (r_t_ahead : Nat → Int32) (x1 : Int32) (x2 : Int32) (x3 : Int32) (rr : Int32) (o_t_thrown : Int32) (o_t_acts : Int32) (o_t_refused : Nat → Int32) (o_t_rows : Nat → Int32) (o_t_ahead : Nat → Int32) (h : f_X12_seek x1 x2 x3 v_t_thrown v_t_songs v_t_people v_t_acts r_t_refused r_t_rows r_t_ahead = some (rr, o_t_thrown, o_t_acts, o_t_refused, o_t_rows, o_t_ahead)) : gs_MW l yX12_seek wsX12_seek rm_X12_seek [.ref a_t, .int x1, .int x2, .int x3] E (w_X12_seek E a_t a_t_refused a_t_rows a_t_ahead a_t_songLong a_t_firstNote a_t_wit a_t_code a_t_tape a_t_newSongLong a_t_newFirstNote a_t_newWit a_t_newRow a_t_readCode a_t_waits a_t_tested a_t_isTold a_t_told a_t_pile a_t_common a_t_mostOf a_t_likes a_t_heard a_t_soon a_t_soonAll a_t_imageRow a_t_imageAhead a_t_imageHears v_t_thrown v_t_songs v_t_people v_t_forgetsAt v_t_fillsAt v_t_taped v_t_faultKind v_t_faultPlace v_t_long1 v_t_next0 v_t_sort v_t_place v_t_long0 v_t_value v_t_sign v_t_word v_t_newSongs v_t_newPeople v_t_newForgetsAt v_t_newFillsAt v_t_top v_t_firstValue v_t_lastValue v_t_waiting v_t_depth v_t_acts v_t_isWinter v_t_learntNow v_t_forgottenNow v_t_heardMany v_t_its0 v_t_hasImage v_t_imageActs v_t_imageHeard r_t_refused r_t_rows r_t_ahead) (w_X12_seek E a_t a_t_refused a_t_rows a_t_ahead a_t_songLong a_t_firstNote a_t_wit a_t_code a_t_tape a_t_newSongLong a_t_newFirstNote a_t_newWit a_t_newRow a_t_readCode a_t_waits a_t_tested a_t_isTold a_t_told a_t_pile a_t_common a_t_mostOf a_t_likes a_t_heard a_t_soon a_t_soonAll a_t_imageRow a_t_imageAhead a_t_imageHears o_t_thrown v_t_songs v_t_people v_t_forgetsAt v_t_fillsAt v_t_taped v_t_faultKind v_t_faultPlace v_t_long1 v_t_next0 v_t_sort v_t_place v_t_long0 v_t_value v_t_sign v_t_word v_t_newSongs v_t_newPeople v_t_newForgetsAt v_t_newFillsAt v_t_top v_t_firstValue v_t_lastValue v_t_waiting v_t_depth o_t_acts v_t_isWinter v_t_learntNow v_t_forgottenNow v_t_heardMany v_t_its0 v_t_hasImage v_t_imageActs v_t_imageHeard o_t_refused o_t_rows o_t_ahead) (some (.int rr)) := by
  refine Met.ofW (cc := cX12_seek) (maxL := 5) (ret := (some .boolean)) (by decide) rfl ?_
  intro p e s m args below meth c s₁ B hml hv
  obtain ⟨rfl, hP, hk, hD0⟩ := hv
  have X0 : gs_X wsX12_seek cX12_seek RX12 5 (some .boolean) p s m ([.ref a_t, .int x1, .int x2, .int x3] : List Value).toArray meth c := gs_X.of B hml
  obtain ⟨hx, hb, -, hown, hts, hr, hlk⟩ := id X0
  have hD := (gs_D_self hD0)
  generalize hAe : gs_w (w_X12_seek E a_t a_t_refused a_t_rows a_t_ahead a_t_songLong a_t_firstNote a_t_wit a_t_code a_t_tape a_t_newSongLong a_t_newFirstNote a_t_newWit a_t_newRow a_t_readCode a_t_waits a_t_tested a_t_isTold a_t_told a_t_pile a_t_common a_t_mostOf a_t_likes a_t_heard a_t_soon a_t_soonAll a_t_imageRow a_t_imageAhead a_t_imageHears v_t_thrown v_t_songs v_t_people v_t_forgetsAt v_t_fillsAt v_t_taped v_t_faultKind v_t_faultPlace v_t_long1 v_t_next0 v_t_sort v_t_place v_t_long0 v_t_value v_t_sign v_t_word v_t_newSongs v_t_newPeople v_t_newForgetsAt v_t_newFillsAt v_t_top v_t_firstValue v_t_lastValue v_t_waiting v_t_depth v_t_acts v_t_isWinter v_t_learntNow v_t_forgottenNow v_t_heardMany v_t_its0 v_t_hasImage v_t_imageActs v_t_imageHeard r_t_refused r_t_rows r_t_ahead) = A at hD ⊢
  have hS : va_S A s.heap s.heap [] := va_S.rf
  have hret : ∀ (H : Heap) (locs : List Loc) (pc : Nat) (ls : Array Slot), va_P E.1 vwCl (w_X12_seek E a_t a_t_refused a_t_rows a_t_ahead a_t_songLong a_t_firstNote a_t_wit a_t_code a_t_tape a_t_newSongLong a_t_newFirstNote a_t_newWit a_t_newRow a_t_readCode a_t_waits a_t_tested a_t_isTold a_t_told a_t_pile a_t_common a_t_mostOf a_t_likes a_t_heard a_t_soon a_t_soonAll a_t_imageRow a_t_imageAhead a_t_imageHears o_t_thrown v_t_songs v_t_people v_t_forgetsAt v_t_fillsAt v_t_taped v_t_faultKind v_t_faultPlace v_t_long1 v_t_next0 v_t_sort v_t_place v_t_long0 v_t_value v_t_sign v_t_word v_t_newSongs v_t_newPeople v_t_newForgetsAt v_t_newFillsAt v_t_top v_t_firstValue v_t_lastValue v_t_waiting v_t_depth o_t_acts v_t_isWinter v_t_learntNow v_t_forgottenNow v_t_heardMany v_t_its0 v_t_hasImage v_t_imageActs v_t_imageHeard o_t_refused o_t_rows o_t_ahead) H → va_S A s.heap H locs → narrow .boolean (.int rr) = .int rr → decode cX12_seek pc = .ok (.ireturn, 1) → W p l e rm_X12_seek s m ([.ref a_t, .int x1, .int x2, .int x3] : List Value).toArray below meth c H locs 0 0 (MQ below (gs_QWA E A (w_X12_seek E a_t a_t_refused a_t_rows a_t_ahead a_t_songLong a_t_firstNote a_t_wit a_t_code a_t_tape a_t_newSongLong a_t_newFirstNote a_t_newWit a_t_newRow a_t_readCode a_t_waits a_t_tested a_t_isTold a_t_told a_t_pile a_t_common a_t_mostOf a_t_likes a_t_heard a_t_soon a_t_soonAll a_t_imageRow a_t_imageAhead a_t_imageHears o_t_thrown v_t_songs v_t_people v_t_forgetsAt v_t_fillsAt v_t_taped v_t_faultKind v_t_faultPlace v_t_long1 v_t_next0 v_t_sort v_t_place v_t_long0 v_t_value v_t_sign v_t_word v_t_newSongs v_t_newPeople v_t_newForgetsAt v_t_newFillsAt v_t_top v_t_firstValue v_t_lastValue v_t_waiting v_t_depth o_t_acts v_t_isWinter v_t_learntNow v_t_forgottenNow v_t_heardMany v_t_its0 v_t_hasImage v_t_imageActs v_t_imageHeard o_t_refused o_t_rows o_t_ahead) (some (.int rr))) ([.ref a_t, .int x1, .int x2, .int x3] : List Value).toArray s 0 0 A) (F0 m pc ls [.int rr]) := fun H locs pc ls hP hS hnar hd => W.zret hx hb hr hnar (fun t ht hW => ⟨rfl, by rw [ht]; exact hP, hS.F ht⟩) hS.2.2 hd
  have hl := lv_entry ([.ref a_t, .int x1, .int x2, .int x3]) (n := 5) (Nat.le_of_ble_eq_true rfl)
  rw [lg_entry_eq]
  generalize (lg_sl ([.ref a_t, .int x1, .int x2, .int x3]) ++ List.replicate (5 - (lg_sl ([.ref a_t, .int x1, .int x2, .int x3])).length) Slot.unset).toArray = ls at hl ⊢
  have hl : lv_has ls 5 [(0, .ref a_t), (1, .int x1), (2, .int x2), (3, .int x3)] := hl
  unfold f_X12_seek at h
  refine lv_aload_n hx hb dX12_seek_0 rfl (lv_at hl 0 rfl) ?_
  refine lv_iconst (v := 0) hx hb dX12_seek_1 (by decide) ?_
  refine va_put (D := E.1) (ci := 12) (v := .int 0) (ty := .int) (C := RX12) (T := TX12) (N := 61) hx hb hts (fun _ h => (List.mem_cons_of_mem _ (List.mem_append_right _ h))) tyX12 tyX12_ok nmX12 hown hk.1 hP hD hS 0 rfl rfl 0 (by decide) (hts (.fieldLink RX12 102 "GapSongsModel" "thrown" "I") (List.mem_cons_of_mem _ (List.mem_append_left _ (List.mem_append_left _ (List.mem_of_getElem? (i := 0) rfl))))) (fun _ h9 => h9) rfl (by decide +kernel) rfl rfl (Nat.le_of_ble_eq_true rfl) dX12_seek_2 (fun H locs hP hD hS => ?_)
  have hP : va_P E.1 vwCl (w_X12_seek E a_t a_t_refused a_t_rows a_t_ahead a_t_songLong a_t_firstNote a_t_wit a_t_code a_t_tape a_t_newSongLong a_t_newFirstNote a_t_newWit a_t_newRow a_t_readCode a_t_waits a_t_tested a_t_isTold a_t_told a_t_pile a_t_common a_t_mostOf a_t_likes a_t_heard a_t_soon a_t_soonAll a_t_imageRow a_t_imageAhead a_t_imageHears 0 v_t_songs v_t_people v_t_forgetsAt v_t_fillsAt v_t_taped v_t_faultKind v_t_faultPlace v_t_long1 v_t_next0 v_t_sort v_t_place v_t_long0 v_t_value v_t_sign v_t_word v_t_newSongs v_t_newPeople v_t_newForgetsAt v_t_newFillsAt v_t_top v_t_firstValue v_t_lastValue v_t_waiting v_t_depth v_t_acts v_t_isWinter v_t_learntNow v_t_forgottenNow v_t_heardMany v_t_its0 v_t_hasImage v_t_imageActs v_t_imageHeard r_t_refused r_t_rows r_t_ahead) H := hP
  have hD : va_D A (w_X12_seek E a_t a_t_refused a_t_rows a_t_ahead a_t_songLong a_t_firstNote a_t_wit a_t_code a_t_tape a_t_newSongLong a_t_newFirstNote a_t_newWit a_t_newRow a_t_readCode a_t_waits a_t_tested a_t_isTold a_t_told a_t_pile a_t_common a_t_mostOf a_t_likes a_t_heard a_t_soon a_t_soonAll a_t_imageRow a_t_imageAhead a_t_imageHears 0 v_t_songs v_t_people v_t_forgetsAt v_t_fillsAt v_t_taped v_t_faultKind v_t_faultPlace v_t_long1 v_t_next0 v_t_sort v_t_place v_t_long0 v_t_value v_t_sign v_t_word v_t_newSongs v_t_newPeople v_t_newForgetsAt v_t_newFillsAt v_t_top v_t_firstValue v_t_lastValue v_t_waiting v_t_depth v_t_acts v_t_isWinter v_t_learntNow v_t_forgottenNow v_t_heardMany v_t_its0 v_t_hasImage v_t_imageActs v_t_imageHeard r_t_refused r_t_rows r_t_ahead) := hD
  refine lv_aload_n hx hb dX12_seek_5 rfl (lv_at hl 0 rfl) ?_
  refine lv_iload_n hx hb dX12_seek_6 rfl (lv_at hl 1 rfl) ?_
  obtain ⟨r1, o1_0, hz1, h⟩ := gs_b2_e h
  refine gs_backWi (ws1 := (w_X12_seek E a_t a_t_refused a_t_rows a_t_ahead a_t_songLong a_t_firstNote a_t_wit a_t_code a_t_tape a_t_newSongLong a_t_newFirstNote a_t_newWit a_t_newRow a_t_readCode a_t_waits a_t_tested a_t_isTold a_t_told a_t_pile a_t_common a_t_mostOf a_t_likes a_t_heard a_t_soon a_t_soonAll a_t_imageRow a_t_imageAhead a_t_imageHears o1_0 v_t_songs v_t_people v_t_forgetsAt v_t_fillsAt v_t_taped v_t_faultKind v_t_faultPlace v_t_long1 v_t_next0 v_t_sort v_t_place v_t_long0 v_t_value v_t_sign v_t_word v_t_newSongs v_t_newPeople v_t_newForgetsAt v_t_newFillsAt v_t_top v_t_firstValue v_t_lastValue v_t_waiting v_t_depth v_t_acts v_t_isWinter v_t_learntNow v_t_forgottenNow v_t_heardMany v_t_its0 v_t_hasImage v_t_imageActs v_t_imageHeard r_t_refused r_t_rows r_t_ahead)) (va_runV (As := [.int x1]) (rest := []) ⟨hx, hb, hml, hown, hts⟩ (c_X12_isPerson l E a_t a_t_songLong a_t_firstNote a_t_wit a_t_code a_t_tape a_t_refused a_t_newSongLong a_t_newFirstNote a_t_newWit a_t_newRow a_t_readCode a_t_waits a_t_tested a_t_isTold a_t_rows a_t_ahead a_t_told a_t_pile a_t_common a_t_mostOf a_t_likes a_t_heard a_t_soon a_t_soonAll a_t_imageRow a_t_imageAhead a_t_imageHears 0 v_t_songs v_t_people v_t_forgetsAt v_t_fillsAt v_t_taped v_t_faultKind v_t_faultPlace v_t_long1 v_t_next0 v_t_sort v_t_place v_t_long0 v_t_value v_t_sign v_t_word v_t_newSongs v_t_newPeople v_t_newForgetsAt v_t_newFillsAt v_t_top v_t_firstValue v_t_lastValue v_t_waiting v_t_depth v_t_acts v_t_isWinter v_t_learntNow v_t_forgottenNow v_t_heardMany v_t_its0 v_t_hasImage v_t_imageActs v_t_imageHeard x1 r1 o1_0 hz1) (cwV 1 hts gX12_seek_X12_isPerson rfl rfl rfl (by decide +kernel) ⟨Nat.le_of_ble_eq_true rfl, Nat.le_of_ble_eq_true rfl⟩) (gs_preV (ci := 12) hk hP hD (is := [0]) rfl rfl rfl rfl) rfl rfl hl.1 rfl (lv_room (Nat.le_of_ble_eq_true rfl)) dX12_seek_7 ⟨Nat.zero_le _, Nat.zero_le _⟩) hP hD hS [0] rfl rfl rfl rfl (fun H locs hP hD hS => ?_)
  refine lv_if_eq (tgt := 52) hx hb dX12_seek_10 (by decide) (fun c2 => ?_) (fun c2 => ?_)
  · replace h := gs_ift c2 h
    refine lv_iconst (v := 0) hx hb dX12_seek_52 (by decide) ?_
    have h := Option.some.inj h
    obtain ⟨w0, h⟩ := Prod.mk.inj h
    obtain ⟨w1, h⟩ := Prod.mk.inj h
    obtain ⟨w2, h⟩ := Prod.mk.inj h
    obtain ⟨w3, h⟩ := Prod.mk.inj h
    obtain ⟨w4, h⟩ := Prod.mk.inj h
    subst h
    subst w0
    subst w1
    subst w2
    subst w3
    subst w4
    exact hret _ _ _ _ hP hS rfl dX12_seek_53
  · replace h := gs_iff c2 h
    refine lv_aload_n hx hb dX12_seek_13 rfl (lv_at hl 0 rfl) ?_
    refine lv_iload_n hx hb dX12_seek_14 rfl (lv_at hl 3 rfl) ?_
    refine lv_iconst (v := (-1)) hx hb dX12_seek_15 (by decide) ?_
    refine lv_icmp_lt (tgt := 31) hx hb dX12_seek_16 (by decide) (fun c3 => ?_) (fun c3 => ?_)
    · replace h := gs_ift c3 h
      refine lv_iconst (v := 0) hx hb dX12_seek_31 (by decide) ?_
      exact t_X12_seek_32 X0 hk  hret  (h := h) _ _ _ hP hD hS (lv_sub hl [0, 1, 2, 3] rfl)
    · replace h := gs_iff c3 h
      refine lv_iload_n hx hb dX12_seek_19 rfl (lv_at hl 3 rfl) ?_
      refine lv_aload_n hx hb dX12_seek_20 rfl (lv_at hl 0 rfl) ?_
      refine va_get (D := E.1) (ci := 12) (v := .int v_t_people) (C := RX12) (T := TX12) (N := 61) hx hb hts (fun _ h => (List.mem_cons_of_mem _ (List.mem_append_right _ h))) hown hk.1 hP 0 rfl rfl 2 (by decide) (hts (.fieldLink RX12 276 "GapSongsModel" "people" "I") (List.mem_cons_of_mem _ (List.mem_append_left _ (List.mem_append_left _ (List.mem_of_getElem? (i := 1) rfl))))) (fun _ h9 => h9) rfl dX12_seek_21 ?_
      refine lv_icmp_ge (tgt := 31) hx hb dX12_seek_24 (by decide) (fun c21 => ?_) (fun c21 => ?_)
      · replace h := gs_ift c21 h
        refine lv_iconst (v := 0) hx hb dX12_seek_31 (by decide) ?_
        exact t_X12_seek_32 X0 hk  hret  (h := h) _ _ _ hP hD hS (lv_sub hl [0, 1, 2, 3] rfl)
      · replace h := gs_iff c21 h
        refine lv_iconst (v := 1) hx hb dX12_seek_27 (by decide) ?_
        refine lv_goto (tgt := 32) hx hb dX12_seek_28 (by decide) ?_
        exact t_X12_seek_32 X0 hk  hret  (h := h) _ _ _ hP hD hS (lv_sub hl [0, 1, 2, 3] rfl)
