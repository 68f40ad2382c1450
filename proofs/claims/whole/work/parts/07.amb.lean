def gs_so : Nat → String × Nat × String
  | 0 => (RX2, 46, "or")
  | 1 => (RX2, 65, "and")
  | 2 => (RX2, 67, "not")
  | 3 => (RX2, 107, "wit")
  | 4 => (RX2, 109, "place")
  | 5 => (RX2, 111, "day")
  | 6 => (RX2, 113, "memory")
  | 7 => (RX2, 115, "note")
  | 8 => (RX2, 117, "gaps")
  | 9 => (RX2, 119, "with")
  | 10 => (RX2, 121, "before")
  | 11 => (RX2, 123, "after")
  | 12 => (RX5, 75, "song")
  | 13 => (RX5, 84, "person")
  | 14 => (RX5, 89, "has")
  | 15 => (RX5, 94, "seeks")
  | 16 => (RX5, 99, "forgets")
  | 17 => (RX5, 104, "fills")
  | _ => (RX8, 66, ";()+-*/<=")
def gs_sb : Nat → List Int32
  | 0 => [111, 114]
  | 1 => [97, 110, 100]
  | 2 => [110, 111, 116]
  | 3 => [119, 105, 116]
  | 4 => [112, 108, 97, 99, 101]
  | 5 => [100, 97, 121]
  | 6 => [109, 101, 109, 111, 114, 121]
  | 7 => [110, 111, 116, 101]
  | 8 => [103, 97, 112, 115]
  | 9 => [119, 105, 116, 104]
  | 10 => [98, 101, 102, 111, 114, 101]
  | 11 => [97, 102, 116, 101, 114]
  | 12 => [115, 111, 110, 103]
  | 13 => [112, 101, 114, 115, 111, 110]
  | 14 => [104, 97, 115]
  | 15 => [115, 101, 101, 107, 115]
  | 16 => [102, 111, 114, 103, 101, 116, 115]
  | 17 => [102, 105, 108, 108, 115]
  | _ => [59, 40, 41, 43, 45, 42, 47, 60, 61]
def gs_xt : Nat → Nat × String
  | 0 => (113, "the tape has not so many bytes")
  | 1 => (164, "no such count")
  | 2 => (187, "no such what of a song")
  | 3 => (207, "no such what of a person")
  | 4 => (245, "no such what of a person's song")
  | 5 => (406, "no such days or tenths")
  | 6 => (418, "both are one")
  | 7 => (444, "no such person")
  | 8 => (446, "no such song")
  | 9 => (448, "no such place")
  | 10 => (450, "no such what")
  | _ => (452, "not so many days")
def gs_xn : Nat → String
  | 1 => "java/util/NoSuchElementException"
  | _ => "java/lang/IllegalArgumentException"
def gs_sl (i : Nat) : Nat := (gs_sb i).length
def gs_sc (i j : Nat) : Int32 := (gs_sb i).getD j 0
/-- what lies outside the worlds: below z; where the string constants lie, and their bytes; a static of the JDK -/
abbrev gs_J : Type := Nat × (Nat → Nat) × (Nat → Nat) × Option Nat
abbrev gs_B (J : gs_J) : Nat → Prop := fun q => J.1 ≤ q
def gs_Str (J : gs_J) (U : State) (H : Heap) : Prop := ∀ i : Nat, va_O "java/lang/String" (J.2.1 i) (gs_B J) U H ∧ va_OF "java/lang/String" "coder" "B" (.int 0) (J.2.1 i) (gs_B J) U H ∧ va_OF "java/lang/String" "value" "[B" (.ref (J.2.2.1 i)) (J.2.1 i) (gs_B J) U H ∧ va_T .byte (J.2.2.1 i) (gs_sl i) (fun j => .int (gs_sc i j)) (gs_B J) U H
def gs_Amb (J : gs_J) (U : State) : Prop := gs_Str J U U.heap ∧ (∀ i : Nat, vk_R (gs_so i).1 (gs_so i).2.1 (gs_so i).2.2 (J.2.1 i) U) ∧ va_Z "java/lang/String" "COMPACT_STRINGS" "Z" (.int 1) (gs_B J) U U.heap ∧ va_Z "jdk/internal/util/Preconditions" "SIOOBE_FORMATTER" "Ljava/util/function/BiFunction;" (va_rf J.2.2.2) (gs_B J) U U.heap ∧ vx_Zq Bundle.tN "UNASSIGNED_STACK" Bundle.steD (gs_B J) U U.heap ∧ vx_Zq Bundle.tN "SUPPRESSED_SENTINEL" Bundle.listD (gs_B J) U U.heap ∧ (∀ i : Nat, ∃ sa : Nat, vk_R RX11 (gs_xt i).1 (gs_xt i).2 sa U) ∧ va_Nw (.castable "java/util/NoSuchElementException" "java/util/NoSuchElementException") U ∧ va_Nw (.castable "java/lang/IllegalArgumentException" "java/lang/IllegalArgumentException") U
theorem gs_Amb.keep {J : gs_J} {s U : State} {locs : List Loc} (h : gs_Amb J s) (hW : s.WarmedH U.vm) (hS : va_S (gs_B J) s.heap U.heap locs) : gs_Amb J U := by
  obtain ⟨h1, h2, h3, h4, h5, h6, h7, h8, h9⟩ := h
  refine ⟨fun i => ⟨((h1 i).1.moved hW.alike).kept hS.2.1, ((h1 i).2.1.moved hW.alike).kept hS.2.1, ((h1 i).2.2.1.moved hW.alike).kept hS.2.1, ((h1 i).2.2.2.moved hW.alike).kept hS.2.1⟩, fun i => (h2 i).warm hW, (h3.moved hW.alike).kept hS.2.1, (h4.moved hW.alike).kept hS.2.1, (h5.moved hW.alike).kept hS.2.1, (h6.moved hW.alike).kept hS.2.1, fun i => ?_, va_Nw.warmC hW h8, va_Nw.warmC hW h9⟩
  obtain ⟨sa, h⟩ := h7 i
  exact ⟨sa, h.warm hW⟩
theorem gs_Amb.same {J : gs_J} {u U : State} (hvm : u.vm = U.vm) (hh : u.heap = U.heap) (h : gs_Amb J u) : gs_Amb J U := by
  have al : u.vm.Alike U.vm := hvm ▸ Vm.Alike.refl u.vm
  obtain ⟨h1, h2, h3, h4, h5, h6, h7, h8, h9⟩ := h
  rw [hh] at h1 h3 h4 h5 h6
  refine ⟨fun i => ⟨(h1 i).1.moved al, (h1 i).2.1.moved al, (h1 i).2.2.1.moved al, (h1 i).2.2.2.moved al⟩, fun i => vk_R.same hvm.symm (h2 i), h3.moved al, h4.moved al, h5.moved al, h6.moved al, fun i => ?_, va_Nw.same rfl hvm h8, va_Nw.same rfl hvm h9⟩
  obtain ⟨sa, h⟩ := h7 i
  exact ⟨sa, vk_R.same hvm.symm h⟩
def gs_PcS (av : List Value) (E : gs_E) (J : gs_J) (w : va_W) : Array Value → State → Prop := va_Pc av (fun U => va_P E.1 vwCl w U.heap ∧ gs_K E U ∧ va_D (gs_B J) w ∧ gs_Amb J U)
theorem gs_blindS {av : List Value} {E : gs_E} {J : gs_J} {w : va_W} : FrameBlind (gs_PcS av E J w) := fun a U g mk q => by
  obtain ⟨q0, qP, qK, qD, qA⟩ := q
  exact ⟨q0, qP, gs_K.same (u := U) (U := U.calling g mk a) rfl qK, qD, gs_Amb.same (u := U) (U := U.calling g mk a) rfl rfl qA⟩
abbrev gs_MRS (l : Launch) (y : MethodName) (ws : List Cond) (rm : Room) (av : List Value) (E : gs_E) (J : gs_J) (w : va_W) (v : Option Value) : Prop := Met l y ws rm (gs_PcS av E J w) (gs_QR v) 0 0 (fun _ => False)
abbrev gs_MWS (l : Launch) (y : MethodName) (ws : List Cond) (rm : Room) (av : List Value) (E : gs_E) (J : gs_J) (w w1 : va_W) (v : Option Value) : Prop := Met l y ws rm (gs_PcS av E J w) (gs_QWA E (gs_w w) w1 v) 0 0 (gs_w w)
/-- it throws, and nothing that was there has changed -/
def gs_XT (nm : String) : String → State → State → Prop := fun E st t => E = nm ∧ va_F (fun _ => False) st t
abbrev gs_MT (l : Launch) (y : MethodName) (ws : List Cond) (rm : Room) (av : List Value) (E : gs_E) (J : gs_J) (w : va_W) (nm : String) : Prop := vx_Met l y ws rm (gs_PcS av E J w) (fun _ _ _ _ => False) (gs_XT nm) 1 6 (fun _ => False)
theorem gs_w_le {J : gs_J} {w : va_W} (h : va_D (gs_B J) w) : ∀ q, gs_w w q → J.1 ≤ q := fun q ⟨k, x, hx⟩ => h.2 k (q, x) hx
theorem gs_S_weak {A B : Nat → Prop} {H0 H : Heap} {locs : List Loc} (hAB : ∀ q, A q → B q) (h : va_S A H0 H locs) : va_S B H0 H locs := ⟨h.1, fun q h1 h2 => h.2.1 q h1 (fun z => h2 (hAB q z)), fun q hq => hAB _ (h.2.2 q hq)⟩
section GSS
variable {p : Program} {l : Launch} {e : Env} {R : Room} {s : State} {m : MethodId} {args : Array Value} {below : List Frame} {meth : Method} {c : Code} {H H0 : Heap} {locs : List Loc} {cells slots : Nat} {Q : State → Prop} {g : JFrame} {A : Nat → Prop}
variable {pc : Nat} {ls : Array Slot} {rest st0 : List Value} {E : gs_E} {J : gs_J} {ws0 ws1 w w1 : va_W} {v : Option Value} {a : Array Value}
theorem gs_preS {av : List Value} {is : List Nat} (hk : gs_K E s) (hAm : gs_Amb J s) (hP : va_P E.1 vwCl ws0 H) (hD : va_D A ws0) (hA0 : ∀ q, A q → J.1 ≤ q) (hS : va_S A s.heap H locs) (hC : is.map (fun i => ws0[i]?) = w.map some) (hn : va_nd is = true) : PreS s H (gs_PcS av E J w) av :=
  ⟨gs_blindS, fun U hU hW => ⟨rfl, by rw [hU]; exact gs_P_sub hP hC, gs_K.warm hW hk, (hD.sub is hn hC).weaken (fun _ _ _ h => hA0 _ h), hAm.keep hW (by rw [hU]; exact gs_S_weak hA0 hS)⟩⟩
theorem gs_preVS {C : String} {T : u_T} {N ci : Nat} {fs : List Value} {b : Nat} {As : List Value} {is : List Nat} (hk : gs_K E s) (hAm : gs_Amb J s) (hP : va_P E.1 vwCl ws0 H) (hD : va_D A ws0) (hA0 : ∀ q, A q → J.1 ≤ q) (hS : va_S A s.heap H locs) (hC : is.map (fun i => ws0[i]?) = w.map some) (hn : va_nd is = true) (hc : vwCl[ci]? = some (C, T, N)) (he : w[0]? = some (b, .inr (ci, fs))) : PreV s H C b (gs_PcS (.ref b :: As) E J w) As :=
  ⟨gs_blindS, va_recv hk.1 (gs_P_sub hP hC) (ci := ci) (q0 := 0) hc he, (gs_preS (av := .ref b :: As) hk hAm hP hD hA0 hS hC hn).2⟩
theorem gs_preVs {i : Nat} {As : List Value} {is : List Nat} (hk : gs_K E s) (hAm : gs_Amb J s) (hP : va_P E.1 vwCl ws0 H) (hD : va_D A ws0) (hA0 : ∀ q, A q → J.1 ≤ q) (hS : va_S A s.heap H locs) (hC : is.map (fun i => ws0[i]?) = w.map some) (hn : va_nd is = true) : PreV s H RJ0 (J.2.1 i) (gs_PcS (.ref (J.2.1 i) :: As) E J w) As := by
  refine ⟨gs_blindS, ?_, (gs_preS (av := .ref (J.2.1 i) :: As) hk hAm hP hD hA0 hS hC hn).2⟩
  obtain ⟨cell, h1, h2, h3, -⟩ := (hAm.1 i).1.kept (gs_S_weak hA0 hS).2.1
  exact ⟨cell, h1, h2, h3⟩
/-- a callee threw: so does the caller -/
theorem gs_outT {nm : String} (hr : vx_Run p l e R s m args below meth c s.heap [] 0 0 1 6 (F0 m pc ls st0) rest (fun _ _ _ => False) (gs_XT nm) (fun _ => False)) (hno : ∀ x ∈ c.exceptionTable.toList, False) (hlk : meth.locks = false) : W p l e R s m args below meth c s.heap [] 0 0 (vx_MQ below (fun _ _ _ _ => False) (gs_XT nm) args s 1 6 (fun _ => False)) (F0 m pc ls st0) := by
  intro T hT X
  rcases hr T hT X with ⟨v, st₀, t, T', L, h0, X', hL, e1, e2, hq, st⟩ | ⟨q, st₀, t, T', L, E', ce, h0, X', hL, e1, e2, ⟨hE, hF⟩, hce, hcv, hcl, st⟩
  · exact hq.elim
  · have hL0 : L = [] := List.eq_nil_iff_forall_not_mem.mpr (fun q hq => hL q hq)
    subst hL0
    rw [List.append_nil] at X'
    have hW : vx_W p l e R s m args below meth c T'.heap [] (0 + 1) (0 + 6) (vx_MQ below (fun _ _ _ _ => False) (gs_XT nm) args s 1 6 (fun _ => False)) (F0 m pc ls rest) q := by
      refine vx_out (pc := pc) (E := E') (ce := ce) (fun x hx => (hno x hx).elim) hlk (by rw [e1]; exact hce) hcv hcl (fun t' ht' _ => ⟨hE, ?_, fun z h1 h2 => ?_⟩) (fun z hz => by cases hz) (Nat.le_refl _) (Nat.le_refl _)
      · rw [ht', e1, ← h0]; exact hF.1
      · rw [ht', e1, hF.2 z (by rw [h0]; exact h1) h2, h0]
    obtain ⟨t2, a1, b1⟩ := hW T' rfl X'
    exact ⟨t2, st.trans a1, b1⟩
end GSS
def gs_rt {α : Type} (o : Option α) : Option (Nat ⊕ α) := match o with
  | some a => some (.inr a)
  | none => none
theorem gs_rt_e {α : Type} {o : Option α} {r : α} (h : gs_rt o = some (.inr r)) : o = some r := by
  cases o with
  | none => cases h
  | some a => cases h; rfl
theorem gs_rt_no {α : Type} {o : Option α} {k : Nat} (h : gs_rt o = some (.inl k)) : False := by
  cases o with
  | none => cases h
  | some a => cases h
def gs_bx1 {α β : Type} (o : Option (Nat ⊕ α)) (k : α → Option (Nat ⊕ β)) : Option (Nat ⊕ β) := match o with
  | some (.inr a) => k a
  | some (.inl n) => some (.inl n)
  | none => none
theorem gs_bx1_e {α β : Type} {o : Option (Nat ⊕ α)} {k : α → Option (Nat ⊕ β)} {r : β} (h : gs_bx1 o k = some (.inr r)) : ∃ a, o = some (.inr a) ∧ k a = some (.inr r) := by
  cases o with
  | none => cases h
  | some a =>
    cases a with
    | inl n => cases h
    | inr a => exact ⟨a, rfl, h⟩
theorem gs_bx1_t {α β : Type} {o : Option (Nat ⊕ α)} {k : α → Option (Nat ⊕ β)} {n : Nat} (h : gs_bx1 o k = some (.inl n)) : o = some (.inl n) ∨ ∃ a, o = some (.inr a) ∧ k a = some (.inl n) := by
  cases o with
  | none => cases h
  | some a =>
    cases a with
    | inl m => cases h; exact Or.inl rfl
    | inr a => exact Or.inr ⟨a, rfl, h⟩
set_option maxRecDepth 20000 in
theorem gs_ogN : ∀ w ∈ Cond.classLink RX11 162 "java/util/NoSuchElementException" :: Cond.initialized "java/util/NoSuchElementException" :: vx_atS RX11 166 "java/util/NoSuchElementException" ["java/lang/RuntimeException", "java/lang/Exception"], vx_ot w = true := fun w hw => List.all_eq_true.mp (show (Cond.classLink RX11 162 "java/util/NoSuchElementException" :: Cond.initialized "java/util/NoSuchElementException" :: vx_atS RX11 166 "java/util/NoSuchElementException" ["java/lang/RuntimeException", "java/lang/Exception"]).all vx_ot = true by decide +kernel) w hw
set_option maxRecDepth 20000 in
theorem gs_ogI : ∀ w ∈ Cond.classLink RX11 111 "java/lang/IllegalArgumentException" :: Cond.initialized "java/lang/IllegalArgumentException" :: vx_atS RX11 115 "java/lang/IllegalArgumentException" ["java/lang/RuntimeException", "java/lang/Exception"], vx_ot w = true := fun w hw => List.all_eq_true.mp (show (Cond.classLink RX11 111 "java/lang/IllegalArgumentException" :: Cond.initialized "java/lang/IllegalArgumentException" :: vx_atS RX11 115 "java/lang/IllegalArgumentException" ["java/lang/RuntimeException", "java/lang/Exception"]).all vx_ot = true by decide +kernel) w hw
set_option maxRecDepth 20000 in
theorem gs_obN : ∀ w ∈ (vx_atS RX11 166 "java/util/NoSuchElementException" ["java/lang/RuntimeException", "java/lang/Exception"]).filter (fun w => !goodWord w), w ∈ [Cond.castable "java/util/NoSuchElementException" "java/util/NoSuchElementException"] := by decide +kernel
set_option maxRecDepth 20000 in
theorem gs_obI : ∀ w ∈ (vx_atS RX11 115 "java/lang/IllegalArgumentException" ["java/lang/RuntimeException", "java/lang/Exception"]).filter (fun w => !goodWord w), w ∈ [Cond.castable "java/lang/IllegalArgumentException" "java/lang/IllegalArgumentException"] := by decide +kernel
