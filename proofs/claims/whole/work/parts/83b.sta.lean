/-! ===== the law's start: string constants, statics ===== -/
theorem cn_l {a b : Cond} {args : Array Value} {s : State} (h : (Cond.and a b).before args s = true) : a.before args s = true := by
  rw [Cond.before_and, Bool.and_eq_true] at h
  exact h.1
theorem cn_r {a b : Cond} {args : Array Value} {s : State} (h : (Cond.and a b).before args s = true) : b.before args s = true := by
  rw [Cond.before_and, Bool.and_eq_true] at h
  exact h.2
def st_S (own : String) (k : Nat) (tx : String) (bs : List Int32) (q : Nat × Nat) (s : State) : Prop := vk_R own k tx q.1 s ∧ va_O "java/lang/String" q.1 (fun z => s.heap.size ≤ z) s s.heap ∧ va_OF "java/lang/String" "coder" "B" (.int 0) q.1 (fun z => s.heap.size ≤ z) s s.heap ∧ va_OF "java/lang/String" "value" "[B" (.ref q.2) q.1 (fun z => s.heap.size ≤ z) s s.heap ∧ va_T .byte q.2 bs.length (fun j => .int (bs.getD j 0)) (fun z => s.heap.size ≤ z) s s.heap
theorem st_one {args : Array Value} {s : State} {own tx : String} {k : Nat} {bs : List Int32} (hr : (Cond.stringRef own k tx).before args s = true) (hN : bs.length < 2 ^ 31) (hex : (Cond.exactly (.string own k) "java/lang/String").before args s = true) (hco : (Cond.eq (.field (.string own k) "java/lang/String" "coder" "B") (.int 0)).before args s = true)
    (har : (Cond.arrayOf (.field (.string own k) "java/lang/String" "value" "[B") .byte).before args s = true) (hle : (Cond.eq (.length (.field (.string own k) "java/lang/String" "value" "[B")) (.int (Int32.ofNat bs.length))).before args s = true) (hel : ∀ j : Nat, j < bs.length → (Cond.eq (.elem (.field (.string own k) "java/lang/String" "value" "[B") (.int (Int32.ofNat j))) (.int (bs.getD j 0))).before args s = true) : ∃ q : Nat × Nat, st_S own k tx bs q s := by
  obtain ⟨adK, adV, h, ht⟩ := vk_Sof (args := args) (s := s) (N := 1) (tm := fun _ => .string own k) (len := [bs.length]) (byt := [bs]) (A := fun z => s.heap.size ≤ z)
    (fun i hi => by obtain rfl : i = 0 := by omega
                    exact hN) (fun i hi => hex) (fun i hi => hco) (fun i hi => har)
    (fun i hi => by obtain rfl : i = 0 := by omega
                    exact hle)
    (fun i hi j hj => by obtain rfl : i = 0 := by omega
                         exact hel j hj)
    (fun i j hi hj hij => absurd (by omega : i = j) hij) (fun a h1 h2 => absurd h2 (Nat.not_le.mpr h1))
  have h0 := h.1 0 (by omega)
  exact ⟨(adK 0, adV 0), vk_R.of hr (ht 0 (by omega)), h0.1, h0.2.1, h0.2.2.1, h0.2.2.2⟩
theorem st_ref {args : Array Value} {s : State} {own tx : String} {k : Nat} (hr : (Cond.stringRef own k tx).before args s = true) (hex : (Cond.exactly (.string own k) "java/lang/String").before args s = true) : ∃ sa : Nat, vk_R own k tx sa s := by
  obtain ⟨a, c, cA, kA, q1, -⟩ := Cond.exactly_spec (args := args) (first := s) (o := none) (s := s) (idx := []) (t := Term.string own k) (cls := "java/lang/String") hex
  exact ⟨a, vk_R.of hr q1⟩
set_option maxHeartbeats 4000000 in
set_option maxRecDepth 100000 in
theorem st_s0 {args : Array Value} {s : State} (htb : ∀ w ∈ lw_tbl, w.before args s = true) (hn : narrow_1.before args s = true) : ∃ q : Nat × Nat, st_S RX2 46 "or" [111, 114] q s := by
  have e0 : (Cond.eq (.elem (.field (.string RX2 46) "java/lang/String" "value" "[B") (.int 0)) (.int 111)).before args s = true := (cn_r (cn_l (cn_r (cn_l (cn_r (cn_r (cn_r (cn_r (cn_l hn)))))))))
  have e1 : (Cond.eq (.elem (.field (.string RX2 46) "java/lang/String" "value" "[B") (.int 1)) (.int 114)).before args s = true := (cn_l (cn_r (cn_r (cn_l (cn_r (cn_r (cn_r (cn_r (cn_l hn)))))))))
  have hle : (Cond.eq (.length (.field (.string RX2 46) "java/lang/String" "value" "[B")) (.int 2)).before args s = true := (cn_l (cn_l (cn_r (cn_l (cn_r (cn_r (cn_r (cn_r (cn_l hn)))))))))
  refine st_one (htb (.stringRef RX2 46 "or") (List.mem_append_right (k2_sels lw_privs) (show _ ∈ tables_1 from (List.mem_append_right _ (List.mem_append_right _ (List.mem_append_right _ (List.mem_append_left _ (List.mem_of_getElem? (i := 209) rfl)))))))) (by decide) (cn_l (cn_l (cn_l (cn_r (cn_r (cn_r (cn_r (cn_l hn)))))))) (cn_l (cn_r (cn_l (cn_l (cn_r (cn_r (cn_r (cn_r (cn_l hn))))))))) (cn_r (cn_r (cn_l (cn_l (cn_r (cn_r (cn_r (cn_r (cn_l hn))))))))) hle (fun j hj => ?_)
  match j, hj with
  | 0, _ => exact e0
  | 1, _ => exact e1
  | j + 2, h => exact absurd (show j + 2 < 2 from h) (by omega)
set_option maxHeartbeats 4000000 in
set_option maxRecDepth 100000 in
theorem st_s1 {args : Array Value} {s : State} (htb : ∀ w ∈ lw_tbl, w.before args s = true) (hn : narrow_1.before args s = true) : ∃ q : Nat × Nat, st_S RX2 65 "and" [97, 110, 100] q s := by
  have e0 : (Cond.eq (.elem (.field (.string RX2 65) "java/lang/String" "value" "[B") (.int 0)) (.int 97)).before args s = true := (cn_r (cn_l (cn_r (cn_r (cn_l (cn_r (cn_r (cn_r (cn_l hn)))))))))
  have e1 : (Cond.eq (.elem (.field (.string RX2 65) "java/lang/String" "value" "[B") (.int 1)) (.int 110)).before args s = true := (cn_l (cn_r (cn_r (cn_r (cn_l (cn_r (cn_r (cn_r (cn_l hn)))))))))
  have e2 : (Cond.eq (.elem (.field (.string RX2 65) "java/lang/String" "value" "[B") (.int 2)) (.int 100)).before args s = true := (cn_r (cn_r (cn_r (cn_r (cn_l (cn_r (cn_r (cn_r (cn_l hn)))))))))
  have hle : (Cond.eq (.length (.field (.string RX2 65) "java/lang/String" "value" "[B")) (.int 3)).before args s = true := (cn_l (cn_l (cn_r (cn_r (cn_l (cn_r (cn_r (cn_r (cn_l hn)))))))))
  refine st_one (htb (.stringRef RX2 65 "and") (List.mem_append_right (k2_sels lw_privs) (show _ ∈ tables_1 from (List.mem_append_right _ (List.mem_append_right _ (List.mem_append_right _ (List.mem_append_left _ (List.mem_of_getElem? (i := 208) rfl)))))))) (by decide) (cn_r (cn_l (cn_l (cn_r (cn_l (cn_r (cn_r (cn_r (cn_l hn))))))))) (cn_l (cn_r (cn_l (cn_r (cn_l (cn_r (cn_r (cn_r (cn_l hn))))))))) (cn_r (cn_r (cn_l (cn_r (cn_l (cn_r (cn_r (cn_r (cn_l hn))))))))) hle (fun j hj => ?_)
  match j, hj with
  | 0, _ => exact e0
  | 1, _ => exact e1
  | 2, _ => exact e2
  | j + 3, h => exact absurd (show j + 3 < 3 from h) (by omega)
set_option maxHeartbeats 4000000 in
set_option maxRecDepth 100000 in
theorem st_s2 {args : Array Value} {s : State} (htb : ∀ w ∈ lw_tbl, w.before args s = true) (hn : narrow_1.before args s = true) : ∃ q : Nat × Nat, st_S RX2 67 "not" [110, 111, 116] q s := by
  have e0 : (Cond.eq (.elem (.field (.string RX2 67) "java/lang/String" "value" "[B") (.int 0)) (.int 110)).before args s = true := (cn_r (cn_r (cn_l (cn_l (cn_r (cn_l (cn_l (cn_r (cn_l hn)))))))))
  have e1 : (Cond.eq (.elem (.field (.string RX2 67) "java/lang/String" "value" "[B") (.int 1)) (.int 111)).before args s = true := (cn_l (cn_l (cn_r (cn_l (cn_r (cn_l (cn_l (cn_r (cn_l hn)))))))))
  have e2 : (Cond.eq (.elem (.field (.string RX2 67) "java/lang/String" "value" "[B") (.int 2)) (.int 116)).before args s = true := (cn_r (cn_l (cn_r (cn_l (cn_r (cn_l (cn_l (cn_r (cn_l hn)))))))))
  have hle : (Cond.eq (.length (.field (.string RX2 67) "java/lang/String" "value" "[B")) (.int 3)).before args s = true := (cn_l (cn_r (cn_l (cn_l (cn_r (cn_l (cn_l (cn_r (cn_l hn)))))))))
  refine st_one (htb (.stringRef RX2 67 "not") (List.mem_append_right (k2_sels lw_privs) (show _ ∈ tables_1 from (List.mem_append_right _ (List.mem_append_right _ (List.mem_append_right _ (List.mem_append_left _ (List.mem_of_getElem? (i := 155) rfl)))))))) (by decide) (cn_l (cn_r (cn_r (cn_r (cn_l (cn_l (cn_l (cn_r (cn_l hn))))))))) (cn_r (cn_r (cn_r (cn_r (cn_l (cn_l (cn_l (cn_r (cn_l hn))))))))) (cn_l (cn_l (cn_l (cn_r (cn_l (cn_l (cn_r (cn_l hn)))))))) hle (fun j hj => ?_)
  match j, hj with
  | 0, _ => exact e0
  | 1, _ => exact e1
  | 2, _ => exact e2
  | j + 3, h => exact absurd (show j + 3 < 3 from h) (by omega)
set_option maxHeartbeats 4000000 in
set_option maxRecDepth 100000 in
theorem st_s3 {args : Array Value} {s : State} (htb : ∀ w ∈ lw_tbl, w.before args s = true) (hn : narrow_1.before args s = true) : ∃ q : Nat × Nat, st_S RX2 107 "wit" [119, 105, 116] q s := by
  have e0 : (Cond.eq (.elem (.field (.string RX2 107) "java/lang/String" "value" "[B") (.int 0)) (.int 119)).before args s = true := (cn_l (cn_r (cn_l (cn_r (cn_r (cn_l (cn_l (cn_r (cn_l hn)))))))))
  have e1 : (Cond.eq (.elem (.field (.string RX2 107) "java/lang/String" "value" "[B") (.int 1)) (.int 105)).before args s = true := (cn_r (cn_r (cn_l (cn_r (cn_r (cn_l (cn_l (cn_r (cn_l hn)))))))))
  have e2 : (Cond.eq (.elem (.field (.string RX2 107) "java/lang/String" "value" "[B") (.int 2)) (.int 116)).before args s = true := (cn_l (cn_l (cn_r (cn_r (cn_r (cn_l (cn_l (cn_r (cn_l hn)))))))))
  have hle : (Cond.eq (.length (.field (.string RX2 107) "java/lang/String" "value" "[B")) (.int 3)).before args s = true := (cn_r (cn_l (cn_l (cn_r (cn_r (cn_l (cn_l (cn_r (cn_l hn)))))))))
  refine st_one (htb (.stringRef RX2 107 "wit") (List.mem_append_right (k2_sels lw_privs) (show _ ∈ tables_1 from (List.mem_append_right _ (List.mem_append_right _ (List.mem_append_right _ (List.mem_append_left _ (List.mem_of_getElem? (i := 187) rfl)))))))) (by decide) (cn_l (cn_r (cn_r (cn_l (cn_r (cn_l (cn_l (cn_r (cn_l hn))))))))) (cn_r (cn_r (cn_r (cn_l (cn_r (cn_l (cn_l (cn_r (cn_l hn))))))))) (cn_l (cn_l (cn_l (cn_r (cn_r (cn_l (cn_l (cn_r (cn_l hn))))))))) hle (fun j hj => ?_)
  match j, hj with
  | 0, _ => exact e0
  | 1, _ => exact e1
  | 2, _ => exact e2
  | j + 3, h => exact absurd (show j + 3 < 3 from h) (by omega)
set_option maxHeartbeats 4000000 in
set_option maxRecDepth 100000 in
theorem st_s4 {args : Array Value} {s : State} (htb : ∀ w ∈ lw_tbl, w.before args s = true) (hn : narrow_1.before args s = true) : ∃ q : Nat × Nat, st_S RX2 109 "place" [112, 108, 97, 99, 101] q s := by
  have e0 : (Cond.eq (.elem (.field (.string RX2 109) "java/lang/String" "value" "[B") (.int 0)) (.int 112)).before args s = true := (cn_l (cn_r (cn_l (cn_l (cn_l (cn_r (cn_l (cn_r (cn_l hn)))))))))
  have e1 : (Cond.eq (.elem (.field (.string RX2 109) "java/lang/String" "value" "[B") (.int 1)) (.int 108)).before args s = true := (cn_r (cn_r (cn_l (cn_l (cn_l (cn_r (cn_l (cn_r (cn_l hn)))))))))
  have e2 : (Cond.eq (.elem (.field (.string RX2 109) "java/lang/String" "value" "[B") (.int 2)) (.int 97)).before args s = true := (cn_l (cn_l (cn_r (cn_l (cn_l (cn_r (cn_l (cn_r (cn_l hn)))))))))
  have e3 : (Cond.eq (.elem (.field (.string RX2 109) "java/lang/String" "value" "[B") (.int 3)) (.int 99)).before args s = true := (cn_r (cn_l (cn_r (cn_l (cn_l (cn_r (cn_l (cn_r (cn_l hn)))))))))
  have e4 : (Cond.eq (.elem (.field (.string RX2 109) "java/lang/String" "value" "[B") (.int 4)) (.int 101)).before args s = true := (cn_l (cn_r (cn_r (cn_l (cn_l (cn_r (cn_l (cn_r (cn_l hn)))))))))
  have hle : (Cond.eq (.length (.field (.string RX2 109) "java/lang/String" "value" "[B")) (.int 5)).before args s = true := (cn_l (cn_l (cn_l (cn_l (cn_r (cn_l (cn_r (cn_l hn))))))))
  refine st_one (htb (.stringRef RX2 109 "place") (List.mem_append_right (k2_sels lw_privs) (show _ ∈ tables_1 from (List.mem_append_right _ (List.mem_append_right _ (List.mem_append_right _ (List.mem_append_left _ (List.mem_of_getElem? (i := 188) rfl)))))))) (by decide) (cn_r (cn_l (cn_r (cn_r (cn_r (cn_l (cn_l (cn_r (cn_l hn))))))))) (cn_l (cn_r (cn_r (cn_r (cn_r (cn_l (cn_l (cn_r (cn_l hn))))))))) (cn_r (cn_r (cn_r (cn_r (cn_r (cn_l (cn_l (cn_r (cn_l hn))))))))) hle (fun j hj => ?_)
  match j, hj with
  | 0, _ => exact e0
  | 1, _ => exact e1
  | 2, _ => exact e2
  | 3, _ => exact e3
  | 4, _ => exact e4
  | j + 5, h => exact absurd (show j + 5 < 5 from h) (by omega)
set_option maxHeartbeats 4000000 in
set_option maxRecDepth 100000 in
theorem st_s5 {args : Array Value} {s : State} (htb : ∀ w ∈ lw_tbl, w.before args s = true) (hn : narrow_1.before args s = true) : ∃ q : Nat × Nat, st_S RX2 111 "day" [100, 97, 121] q s := by
  have e0 : (Cond.eq (.elem (.field (.string RX2 111) "java/lang/String" "value" "[B") (.int 0)) (.int 100)).before args s = true := (cn_l (cn_l (cn_r (cn_r (cn_l (cn_r (cn_l (cn_r (cn_l hn)))))))))
  have e1 : (Cond.eq (.elem (.field (.string RX2 111) "java/lang/String" "value" "[B") (.int 1)) (.int 97)).before args s = true := (cn_r (cn_l (cn_r (cn_r (cn_l (cn_r (cn_l (cn_r (cn_l hn)))))))))
  have e2 : (Cond.eq (.elem (.field (.string RX2 111) "java/lang/String" "value" "[B") (.int 2)) (.int 121)).before args s = true := (cn_l (cn_r (cn_r (cn_r (cn_l (cn_r (cn_l (cn_r (cn_l hn)))))))))
  have hle : (Cond.eq (.length (.field (.string RX2 111) "java/lang/String" "value" "[B")) (.int 3)).before args s = true := (cn_r (cn_r (cn_l (cn_r (cn_l (cn_r (cn_l (cn_r (cn_l hn)))))))))
  refine st_one (htb (.stringRef RX2 111 "day") (List.mem_append_right (k2_sels lw_privs) (show _ ∈ tables_1 from (List.mem_append_right _ (List.mem_append_right _ (List.mem_append_right _ (List.mem_append_left _ (List.mem_of_getElem? (i := 189) rfl)))))))) (by decide) (cn_r (cn_r (cn_r (cn_l (cn_l (cn_r (cn_l (cn_r (cn_l hn))))))))) (cn_l (cn_l (cn_r (cn_l (cn_r (cn_l (cn_r (cn_l hn)))))))) (cn_l (cn_r (cn_l (cn_r (cn_l (cn_r (cn_l (cn_r (cn_l hn))))))))) hle (fun j hj => ?_)
  match j, hj with
  | 0, _ => exact e0
  | 1, _ => exact e1
  | 2, _ => exact e2
  | j + 3, h => exact absurd (show j + 3 < 3 from h) (by omega)
set_option maxHeartbeats 4000000 in
set_option maxRecDepth 100000 in
theorem st_s6 {args : Array Value} {s : State} (htb : ∀ w ∈ lw_tbl, w.before args s = true) (hn : narrow_1.before args s = true) : ∃ q : Nat × Nat, st_S RX2 113 "memory" [109, 101, 109, 111, 114, 121] q s := by
  have e0 : (Cond.eq (.elem (.field (.string RX2 113) "java/lang/String" "value" "[B") (.int 0)) (.int 109)).before args s = true := (cn_l (cn_l (cn_r (cn_l (cn_r (cn_r (cn_l (cn_r (cn_l hn)))))))))
  have e1 : (Cond.eq (.elem (.field (.string RX2 113) "java/lang/String" "value" "[B") (.int 1)) (.int 101)).before args s = true := (cn_r (cn_l (cn_r (cn_l (cn_r (cn_r (cn_l (cn_r (cn_l hn)))))))))
  have e2 : (Cond.eq (.elem (.field (.string RX2 113) "java/lang/String" "value" "[B") (.int 2)) (.int 109)).before args s = true := (cn_l (cn_r (cn_r (cn_l (cn_r (cn_r (cn_l (cn_r (cn_l hn)))))))))
  have e3 : (Cond.eq (.elem (.field (.string RX2 113) "java/lang/String" "value" "[B") (.int 3)) (.int 111)).before args s = true := (cn_r (cn_r (cn_r (cn_l (cn_r (cn_r (cn_l (cn_r (cn_l hn)))))))))
  have e4 : (Cond.eq (.elem (.field (.string RX2 113) "java/lang/String" "value" "[B") (.int 4)) (.int 114)).before args s = true := (cn_l (cn_l (cn_l (cn_r (cn_r (cn_r (cn_l (cn_r (cn_l hn)))))))))
  have e5 : (Cond.eq (.elem (.field (.string RX2 113) "java/lang/String" "value" "[B") (.int 5)) (.int 121)).before args s = true := (cn_r (cn_l (cn_l (cn_r (cn_r (cn_r (cn_l (cn_r (cn_l hn)))))))))
  have hle : (Cond.eq (.length (.field (.string RX2 113) "java/lang/String" "value" "[B")) (.int 6)).before args s = true := (cn_r (cn_r (cn_l (cn_l (cn_r (cn_r (cn_l (cn_r (cn_l hn)))))))))
  refine st_one (htb (.stringRef RX2 113 "memory") (List.mem_append_right (k2_sels lw_privs) (show _ ∈ tables_1 from (List.mem_append_right _ (List.mem_append_right _ (List.mem_append_right _ (List.mem_append_left _ (List.mem_of_getElem? (i := 194) rfl)))))))) (by decide) (cn_r (cn_r (cn_r (cn_r (cn_l (cn_r (cn_l (cn_r (cn_l hn))))))))) (cn_l (cn_l (cn_l (cn_r (cn_r (cn_l (cn_r (cn_l hn)))))))) (cn_l (cn_r (cn_l (cn_l (cn_r (cn_r (cn_l (cn_r (cn_l hn))))))))) hle (fun j hj => ?_)
  match j, hj with
  | 0, _ => exact e0
  | 1, _ => exact e1
  | 2, _ => exact e2
  | 3, _ => exact e3
  | 4, _ => exact e4
  | 5, _ => exact e5
  | j + 6, h => exact absurd (show j + 6 < 6 from h) (by omega)
set_option maxHeartbeats 4000000 in
set_option maxRecDepth 100000 in
theorem st_s7 {args : Array Value} {s : State} (htb : ∀ w ∈ lw_tbl, w.before args s = true) (hn : narrow_1.before args s = true) : ∃ q : Nat × Nat, st_S RX2 115 "note" [110, 111, 116, 101] q s := by
  have e0 : (Cond.eq (.elem (.field (.string RX2 115) "java/lang/String" "value" "[B") (.int 0)) (.int 110)).before args s = true := (cn_l (cn_r (cn_r (cn_r (cn_r (cn_r (cn_l (cn_r (cn_l hn)))))))))
  have e1 : (Cond.eq (.elem (.field (.string RX2 115) "java/lang/String" "value" "[B") (.int 1)) (.int 111)).before args s = true := (cn_r (cn_r (cn_r (cn_r (cn_r (cn_r (cn_l (cn_r (cn_l hn)))))))))
  have e2 : (Cond.eq (.elem (.field (.string RX2 115) "java/lang/String" "value" "[B") (.int 2)) (.int 116)).before args s = true := (cn_l (cn_l (cn_l (cn_l (cn_l (cn_r (cn_r (cn_l hn))))))))
  have e3 : (Cond.eq (.elem (.field (.string RX2 115) "java/lang/String" "value" "[B") (.int 3)) (.int 101)).before args s = true := (cn_l (cn_r (cn_l (cn_l (cn_l (cn_l (cn_r (cn_r (cn_l hn)))))))))
  have hle : (Cond.eq (.length (.field (.string RX2 115) "java/lang/String" "value" "[B")) (.int 4)).before args s = true := (cn_r (cn_l (cn_r (cn_r (cn_r (cn_r (cn_l (cn_r (cn_l hn)))))))))
  refine st_one (htb (.stringRef RX2 115 "note") (List.mem_append_right (k2_sels lw_privs) (show _ ∈ tables_1 from (List.mem_append_right _ (List.mem_append_right _ (List.mem_append_right _ (List.mem_append_left _ (List.mem_of_getElem? (i := 195) rfl)))))))) (by decide) (cn_l (cn_r (cn_l (cn_r (cn_r (cn_r (cn_l (cn_r (cn_l hn))))))))) (cn_r (cn_r (cn_l (cn_r (cn_r (cn_r (cn_l (cn_r (cn_l hn))))))))) (cn_l (cn_l (cn_r (cn_r (cn_r (cn_r (cn_l (cn_r (cn_l hn))))))))) hle (fun j hj => ?_)
  match j, hj with
  | 0, _ => exact e0
  | 1, _ => exact e1
  | 2, _ => exact e2
  | 3, _ => exact e3
  | j + 4, h => exact absurd (show j + 4 < 4 from h) (by omega)
set_option maxHeartbeats 4000000 in
set_option maxRecDepth 100000 in
theorem st_s8 {args : Array Value} {s : State} (htb : ∀ w ∈ lw_tbl, w.before args s = true) (hn : narrow_1.before args s = true) : ∃ q : Nat × Nat, st_S RX2 117 "gaps" [103, 97, 112, 115] q s := by
  have e0 : (Cond.eq (.elem (.field (.string RX2 117) "java/lang/String" "value" "[B") (.int 0)) (.int 103)).before args s = true := (cn_r (cn_r (cn_r (cn_l (cn_l (cn_l (cn_r (cn_r (cn_l hn)))))))))
  have e1 : (Cond.eq (.elem (.field (.string RX2 117) "java/lang/String" "value" "[B") (.int 1)) (.int 97)).before args s = true := (cn_l (cn_l (cn_r (cn_l (cn_l (cn_r (cn_r (cn_l hn))))))))
  have e2 : (Cond.eq (.elem (.field (.string RX2 117) "java/lang/String" "value" "[B") (.int 2)) (.int 112)).before args s = true := (cn_l (cn_r (cn_l (cn_r (cn_l (cn_l (cn_r (cn_r (cn_l hn)))))))))
  have e3 : (Cond.eq (.elem (.field (.string RX2 117) "java/lang/String" "value" "[B") (.int 3)) (.int 115)).before args s = true := (cn_r (cn_r (cn_l (cn_r (cn_l (cn_l (cn_r (cn_r (cn_l hn)))))))))
  have hle : (Cond.eq (.length (.field (.string RX2 117) "java/lang/String" "value" "[B")) (.int 4)).before args s = true := (cn_l (cn_r (cn_r (cn_l (cn_l (cn_l (cn_r (cn_r (cn_l hn)))))))))
  refine st_one (htb (.stringRef RX2 117 "gaps") (List.mem_append_right (k2_sels lw_privs) (show _ ∈ tables_1 from (List.mem_append_right _ (List.mem_append_right _ (List.mem_append_right _ (List.mem_append_left _ (List.mem_of_getElem? (i := 196) rfl)))))))) (by decide) (cn_r (cn_r (cn_l (cn_l (cn_l (cn_l (cn_r (cn_r (cn_l hn))))))))) (cn_l (cn_l (cn_r (cn_l (cn_l (cn_l (cn_r (cn_r (cn_l hn))))))))) (cn_r (cn_l (cn_r (cn_l (cn_l (cn_l (cn_r (cn_r (cn_l hn))))))))) hle (fun j hj => ?_)
  match j, hj with
  | 0, _ => exact e0
  | 1, _ => exact e1
  | 2, _ => exact e2
  | 3, _ => exact e3
  | j + 4, h => exact absurd (show j + 4 < 4 from h) (by omega)
set_option maxHeartbeats 4000000 in
set_option maxRecDepth 100000 in
theorem st_s9 {args : Array Value} {s : State} (htb : ∀ w ∈ lw_tbl, w.before args s = true) (hn : narrow_1.before args s = true) : ∃ q : Nat × Nat, st_S RX2 119 "with" [119, 105, 116, 104] q s := by
  have e0 : (Cond.eq (.elem (.field (.string RX2 119) "java/lang/String" "value" "[B") (.int 0)) (.int 119)).before args s = true := (cn_l (cn_l (cn_l (cn_r (cn_l (cn_r (cn_r (cn_l hn))))))))
  have e1 : (Cond.eq (.elem (.field (.string RX2 119) "java/lang/String" "value" "[B") (.int 1)) (.int 105)).before args s = true := (cn_l (cn_r (cn_l (cn_l (cn_r (cn_l (cn_r (cn_r (cn_l hn)))))))))
  have e2 : (Cond.eq (.elem (.field (.string RX2 119) "java/lang/String" "value" "[B") (.int 2)) (.int 116)).before args s = true := (cn_r (cn_r (cn_l (cn_l (cn_r (cn_l (cn_r (cn_r (cn_l hn)))))))))
  have e3 : (Cond.eq (.elem (.field (.string RX2 119) "java/lang/String" "value" "[B") (.int 3)) (.int 104)).before args s = true := (cn_l (cn_l (cn_r (cn_l (cn_r (cn_l (cn_r (cn_r (cn_l hn)))))))))
  have hle : (Cond.eq (.length (.field (.string RX2 119) "java/lang/String" "value" "[B")) (.int 4)).before args s = true := (cn_r (cn_r (cn_r (cn_r (cn_l (cn_l (cn_r (cn_r (cn_l hn)))))))))
  refine st_one (htb (.stringRef RX2 119 "with") (List.mem_append_right (k2_sels lw_privs) (show _ ∈ tables_1 from (List.mem_append_right _ (List.mem_append_right _ (List.mem_append_right _ (List.mem_append_left _ (List.mem_of_getElem? (i := 197) rfl)))))))) (by decide) (cn_l (cn_l (cn_r (cn_r (cn_l (cn_l (cn_r (cn_r (cn_l hn))))))))) (cn_r (cn_l (cn_r (cn_r (cn_l (cn_l (cn_r (cn_r (cn_l hn))))))))) (cn_l (cn_r (cn_r (cn_r (cn_l (cn_l (cn_r (cn_r (cn_l hn))))))))) hle (fun j hj => ?_)
  match j, hj with
  | 0, _ => exact e0
  | 1, _ => exact e1
  | 2, _ => exact e2
  | 3, _ => exact e3
  | j + 4, h => exact absurd (show j + 4 < 4 from h) (by omega)
set_option maxHeartbeats 4000000 in
set_option maxRecDepth 100000 in
theorem st_s10 {args : Array Value} {s : State} (htb : ∀ w ∈ lw_tbl, w.before args s = true) (hn : narrow_1.before args s = true) : ∃ q : Nat × Nat, st_S RX2 121 "before" [98, 101, 102, 111, 114, 101] q s := by
  have e0 : (Cond.eq (.elem (.field (.string RX2 121) "java/lang/String" "value" "[B") (.int 0)) (.int 98)).before args s = true := (cn_r (cn_l (cn_l (cn_r (cn_r (cn_l (cn_r (cn_r (cn_l hn)))))))))
  have e1 : (Cond.eq (.elem (.field (.string RX2 121) "java/lang/String" "value" "[B") (.int 1)) (.int 101)).before args s = true := (cn_l (cn_r (cn_l (cn_r (cn_r (cn_l (cn_r (cn_r (cn_l hn)))))))))
  have e2 : (Cond.eq (.elem (.field (.string RX2 121) "java/lang/String" "value" "[B") (.int 2)) (.int 102)).before args s = true := (cn_r (cn_r (cn_l (cn_r (cn_r (cn_l (cn_r (cn_r (cn_l hn)))))))))
  have e3 : (Cond.eq (.elem (.field (.string RX2 121) "java/lang/String" "value" "[B") (.int 3)) (.int 111)).before args s = true := (cn_l (cn_l (cn_r (cn_r (cn_r (cn_l (cn_r (cn_r (cn_l hn)))))))))
  have e4 : (Cond.eq (.elem (.field (.string RX2 121) "java/lang/String" "value" "[B") (.int 4)) (.int 114)).before args s = true := (cn_r (cn_l (cn_r (cn_r (cn_r (cn_l (cn_r (cn_r (cn_l hn)))))))))
  have e5 : (Cond.eq (.elem (.field (.string RX2 121) "java/lang/String" "value" "[B") (.int 5)) (.int 101)).before args s = true := (cn_l (cn_r (cn_r (cn_r (cn_r (cn_l (cn_r (cn_r (cn_l hn)))))))))
  have hle : (Cond.eq (.length (.field (.string RX2 121) "java/lang/String" "value" "[B")) (.int 6)).before args s = true := (cn_l (cn_l (cn_l (cn_r (cn_r (cn_l (cn_r (cn_r (cn_l hn)))))))))
  refine st_one (htb (.stringRef RX2 121 "before") (List.mem_append_right (k2_sels lw_privs) (show _ ∈ tables_1 from (List.mem_append_right _ (List.mem_append_right _ (List.mem_append_right _ (List.mem_append_left _ (List.mem_of_getElem? (i := 202) rfl)))))))) (by decide) (cn_r (cn_l (cn_r (cn_l (cn_r (cn_l (cn_r (cn_r (cn_l hn))))))))) (cn_l (cn_r (cn_r (cn_l (cn_r (cn_l (cn_r (cn_r (cn_l hn))))))))) (cn_r (cn_r (cn_r (cn_l (cn_r (cn_l (cn_r (cn_r (cn_l hn))))))))) hle (fun j hj => ?_)
  match j, hj with
  | 0, _ => exact e0
  | 1, _ => exact e1
  | 2, _ => exact e2
  | 3, _ => exact e3
  | 4, _ => exact e4
  | 5, _ => exact e5
  | j + 6, h => exact absurd (show j + 6 < 6 from h) (by omega)
set_option maxHeartbeats 4000000 in
set_option maxRecDepth 100000 in
theorem st_s11 {args : Array Value} {s : State} (htb : ∀ w ∈ lw_tbl, w.before args s = true) (hn : narrow_1.before args s = true) : ∃ q : Nat × Nat, st_S RX2 123 "after" [97, 102, 116, 101, 114] q s := by
  have e0 : (Cond.eq (.elem (.field (.string RX2 123) "java/lang/String" "value" "[B") (.int 0)) (.int 97)).before args s = true := (cn_l (cn_l (cn_r (cn_l (cn_l (cn_r (cn_r (cn_r (cn_l hn)))))))))
  have e1 : (Cond.eq (.elem (.field (.string RX2 123) "java/lang/String" "value" "[B") (.int 1)) (.int 102)).before args s = true := (cn_r (cn_l (cn_r (cn_l (cn_l (cn_r (cn_r (cn_r (cn_l hn)))))))))
  have e2 : (Cond.eq (.elem (.field (.string RX2 123) "java/lang/String" "value" "[B") (.int 2)) (.int 116)).before args s = true := (cn_l (cn_r (cn_r (cn_l (cn_l (cn_r (cn_r (cn_r (cn_l hn)))))))))
  have e3 : (Cond.eq (.elem (.field (.string RX2 123) "java/lang/String" "value" "[B") (.int 3)) (.int 101)).before args s = true := (cn_r (cn_r (cn_r (cn_l (cn_l (cn_r (cn_r (cn_r (cn_l hn)))))))))
  have e4 : (Cond.eq (.elem (.field (.string RX2 123) "java/lang/String" "value" "[B") (.int 4)) (.int 114)).before args s = true := (cn_l (cn_l (cn_l (cn_r (cn_l (cn_r (cn_r (cn_r (cn_l hn)))))))))
  have hle : (Cond.eq (.length (.field (.string RX2 123) "java/lang/String" "value" "[B")) (.int 5)).before args s = true := (cn_r (cn_r (cn_l (cn_l (cn_l (cn_r (cn_r (cn_r (cn_l hn)))))))))
  refine st_one (htb (.stringRef RX2 123 "after") (List.mem_append_right (k2_sels lw_privs) (show _ ∈ tables_1 from (List.mem_append_right _ (List.mem_append_right _ (List.mem_append_right _ (List.mem_append_left _ (List.mem_of_getElem? (i := 203) rfl)))))))) (by decide) (cn_r (cn_r (cn_r (cn_r (cn_r (cn_l (cn_r (cn_r (cn_l hn))))))))) (cn_l (cn_l (cn_l (cn_l (cn_r (cn_r (cn_r (cn_l hn)))))))) (cn_l (cn_r (cn_l (cn_l (cn_l (cn_r (cn_r (cn_r (cn_l hn))))))))) hle (fun j hj => ?_)
  match j, hj with
  | 0, _ => exact e0
  | 1, _ => exact e1
  | 2, _ => exact e2
  | 3, _ => exact e3
  | 4, _ => exact e4
  | j + 5, h => exact absurd (show j + 5 < 5 from h) (by omega)
set_option maxHeartbeats 4000000 in
set_option maxRecDepth 100000 in
theorem st_s12 {args : Array Value} {s : State} (htb : ∀ w ∈ lw_tbl, w.before args s = true) (hn : narrow_1.before args s = true) : ∃ q : Nat × Nat, st_S RX5 75 "song" [115, 111, 110, 103] q s := by
  have e0 : (Cond.eq (.elem (.field (.string RX5 75) "java/lang/String" "value" "[B") (.int 0)) (.int 115)).before args s = true := (cn_l (cn_r (cn_l (cn_l (cn_l (cn_r (cn_r (cn_l (cn_l hn)))))))))
  have e1 : (Cond.eq (.elem (.field (.string RX5 75) "java/lang/String" "value" "[B") (.int 1)) (.int 111)).before args s = true := (cn_r (cn_r (cn_l (cn_l (cn_l (cn_r (cn_r (cn_l (cn_l hn)))))))))
  have e2 : (Cond.eq (.elem (.field (.string RX5 75) "java/lang/String" "value" "[B") (.int 2)) (.int 110)).before args s = true := (cn_l (cn_l (cn_r (cn_l (cn_l (cn_r (cn_r (cn_l (cn_l hn)))))))))
  have e3 : (Cond.eq (.elem (.field (.string RX5 75) "java/lang/String" "value" "[B") (.int 3)) (.int 103)).before args s = true := (cn_r (cn_l (cn_r (cn_l (cn_l (cn_r (cn_r (cn_l (cn_l hn)))))))))
  have hle : (Cond.eq (.length (.field (.string RX5 75) "java/lang/String" "value" "[B")) (.int 4)).before args s = true := (cn_l (cn_l (cn_l (cn_l (cn_r (cn_r (cn_l (cn_l hn))))))))
  refine st_one (htb (.stringRef RX5 75 "song") (List.mem_append_right (k2_sels lw_privs) (show _ ∈ tables_1 from (List.mem_append_right _ (List.mem_append_right _ (List.mem_append_right _ (List.mem_append_left _ (List.mem_of_getElem? (i := 59) rfl)))))))) (by decide) (cn_r (cn_l (cn_r (cn_r (cn_r (cn_l (cn_r (cn_l (cn_l hn))))))))) (cn_l (cn_r (cn_r (cn_r (cn_r (cn_l (cn_r (cn_l (cn_l hn))))))))) (cn_r (cn_r (cn_r (cn_r (cn_r (cn_l (cn_r (cn_l (cn_l hn))))))))) hle (fun j hj => ?_)
  match j, hj with
  | 0, _ => exact e0
  | 1, _ => exact e1
  | 2, _ => exact e2
  | 3, _ => exact e3
  | j + 4, h => exact absurd (show j + 4 < 4 from h) (by omega)
set_option maxHeartbeats 4000000 in
set_option maxRecDepth 100000 in
theorem st_s13 {args : Array Value} {s : State} (htb : ∀ w ∈ lw_tbl, w.before args s = true) (hn : narrow_1.before args s = true) : ∃ q : Nat × Nat, st_S RX5 84 "person" [112, 101, 114, 115, 111, 110] q s := by
  have e0 : (Cond.eq (.elem (.field (.string RX5 84) "java/lang/String" "value" "[B") (.int 0)) (.int 112)).before args s = true := (cn_l (cn_r (cn_l (cn_r (cn_l (cn_r (cn_r (cn_l (cn_l hn)))))))))
  have e1 : (Cond.eq (.elem (.field (.string RX5 84) "java/lang/String" "value" "[B") (.int 1)) (.int 101)).before args s = true := (cn_r (cn_r (cn_l (cn_r (cn_l (cn_r (cn_r (cn_l (cn_l hn)))))))))
  have e2 : (Cond.eq (.elem (.field (.string RX5 84) "java/lang/String" "value" "[B") (.int 2)) (.int 114)).before args s = true := (cn_l (cn_l (cn_r (cn_r (cn_l (cn_r (cn_r (cn_l (cn_l hn)))))))))
  have e3 : (Cond.eq (.elem (.field (.string RX5 84) "java/lang/String" "value" "[B") (.int 3)) (.int 115)).before args s = true := (cn_r (cn_l (cn_r (cn_r (cn_l (cn_r (cn_r (cn_l (cn_l hn)))))))))
  have e4 : (Cond.eq (.elem (.field (.string RX5 84) "java/lang/String" "value" "[B") (.int 4)) (.int 111)).before args s = true := (cn_l (cn_r (cn_r (cn_r (cn_l (cn_r (cn_r (cn_l (cn_l hn)))))))))
  have e5 : (Cond.eq (.elem (.field (.string RX5 84) "java/lang/String" "value" "[B") (.int 5)) (.int 110)).before args s = true := (cn_r (cn_r (cn_r (cn_r (cn_l (cn_r (cn_r (cn_l (cn_l hn)))))))))
  have hle : (Cond.eq (.length (.field (.string RX5 84) "java/lang/String" "value" "[B")) (.int 6)).before args s = true := (cn_r (cn_l (cn_l (cn_r (cn_l (cn_r (cn_r (cn_l (cn_l hn)))))))))
  refine st_one (htb (.stringRef RX5 84 "person") (List.mem_append_right (k2_sels lw_privs) (show _ ∈ tables_1 from (List.mem_append_right _ (List.mem_append_right _ (List.mem_append_right _ (List.mem_append_left _ (List.mem_of_getElem? (i := 107) rfl)))))))) (by decide) (cn_l (cn_r (cn_r (cn_l (cn_l (cn_r (cn_r (cn_l (cn_l hn))))))))) (cn_r (cn_r (cn_r (cn_l (cn_l (cn_r (cn_r (cn_l (cn_l hn))))))))) (cn_l (cn_l (cn_l (cn_r (cn_l (cn_r (cn_r (cn_l (cn_l hn))))))))) hle (fun j hj => ?_)
  match j, hj with
  | 0, _ => exact e0
  | 1, _ => exact e1
  | 2, _ => exact e2
  | 3, _ => exact e3
  | 4, _ => exact e4
  | 5, _ => exact e5
  | j + 6, h => exact absurd (show j + 6 < 6 from h) (by omega)
set_option maxHeartbeats 4000000 in
set_option maxRecDepth 100000 in
theorem st_s14 {args : Array Value} {s : State} (htb : ∀ w ∈ lw_tbl, w.before args s = true) (hn : narrow_1.before args s = true) : ∃ q : Nat × Nat, st_S RX5 89 "has" [104, 97, 115] q s := by
  have e0 : (Cond.eq (.elem (.field (.string RX5 89) "java/lang/String" "value" "[B") (.int 0)) (.int 104)).before args s = true := (cn_r (cn_l (cn_r (cn_l (cn_r (cn_r (cn_r (cn_l (cn_l hn)))))))))
  have e1 : (Cond.eq (.elem (.field (.string RX5 89) "java/lang/String" "value" "[B") (.int 1)) (.int 97)).before args s = true := (cn_l (cn_r (cn_r (cn_l (cn_r (cn_r (cn_r (cn_l (cn_l hn)))))))))
  have e2 : (Cond.eq (.elem (.field (.string RX5 89) "java/lang/String" "value" "[B") (.int 2)) (.int 115)).before args s = true := (cn_r (cn_r (cn_r (cn_l (cn_r (cn_r (cn_r (cn_l (cn_l hn)))))))))
  have hle : (Cond.eq (.length (.field (.string RX5 89) "java/lang/String" "value" "[B")) (.int 3)).before args s = true := (cn_l (cn_l (cn_r (cn_l (cn_r (cn_r (cn_r (cn_l (cn_l hn)))))))))
  refine st_one (htb (.stringRef RX5 89 "has") (List.mem_append_right (k2_sels lw_privs) (show _ ∈ tables_1 from (List.mem_append_right _ (List.mem_append_right _ (List.mem_append_right _ (List.mem_append_left _ (List.mem_of_getElem? (i := 112) rfl)))))))) (by decide) (cn_l (cn_l (cn_l (cn_r (cn_r (cn_r (cn_l (cn_l hn)))))))) (cn_l (cn_r (cn_l (cn_l (cn_r (cn_r (cn_r (cn_l (cn_l hn))))))))) (cn_r (cn_r (cn_l (cn_l (cn_r (cn_r (cn_r (cn_l (cn_l hn))))))))) hle (fun j hj => ?_)
  match j, hj with
  | 0, _ => exact e0
  | 1, _ => exact e1
  | 2, _ => exact e2
  | j + 3, h => exact absurd (show j + 3 < 3 from h) (by omega)
set_option maxHeartbeats 4000000 in
set_option maxRecDepth 100000 in
theorem st_s15 {args : Array Value} {s : State} (htb : ∀ w ∈ lw_tbl, w.before args s = true) (hn : narrow_1.before args s = true) : ∃ q : Nat × Nat, st_S RX5 94 "seeks" [115, 101, 101, 107, 115] q s := by
  have e0 : (Cond.eq (.elem (.field (.string RX5 94) "java/lang/String" "value" "[B") (.int 0)) (.int 115)).before args s = true := (cn_l (cn_l (cn_r (cn_r (cn_r (cn_r (cn_r (cn_l (cn_l hn)))))))))
  have e1 : (Cond.eq (.elem (.field (.string RX5 94) "java/lang/String" "value" "[B") (.int 1)) (.int 101)).before args s = true := (cn_r (cn_l (cn_r (cn_r (cn_r (cn_r (cn_r (cn_l (cn_l hn)))))))))
  have e2 : (Cond.eq (.elem (.field (.string RX5 94) "java/lang/String" "value" "[B") (.int 2)) (.int 101)).before args s = true := (cn_l (cn_r (cn_r (cn_r (cn_r (cn_r (cn_r (cn_l (cn_l hn)))))))))
  have e3 : (Cond.eq (.elem (.field (.string RX5 94) "java/lang/String" "value" "[B") (.int 3)) (.int 107)).before args s = true := (cn_r (cn_r (cn_r (cn_r (cn_r (cn_r (cn_r (cn_l (cn_l hn)))))))))
  have e4 : (Cond.eq (.elem (.field (.string RX5 94) "java/lang/String" "value" "[B") (.int 4)) (.int 115)).before args s = true := (cn_l (cn_l (cn_l (cn_l (cn_l (cn_l (cn_r (cn_l hn))))))))
  have hle : (Cond.eq (.length (.field (.string RX5 94) "java/lang/String" "value" "[B")) (.int 5)).before args s = true := (cn_r (cn_r (cn_l (cn_r (cn_r (cn_r (cn_r (cn_l (cn_l hn)))))))))
  refine st_one (htb (.stringRef RX5 94 "seeks") (List.mem_append_right (k2_sels lw_privs) (show _ ∈ tables_1 from (List.mem_append_right _ (List.mem_append_right _ (List.mem_append_right _ (List.mem_append_left _ (List.mem_of_getElem? (i := 122) rfl)))))))) (by decide) (cn_l (cn_l (cn_l (cn_r (cn_r (cn_r (cn_r (cn_l (cn_l hn))))))))) (cn_r (cn_l (cn_l (cn_r (cn_r (cn_r (cn_r (cn_l (cn_l hn))))))))) (cn_l (cn_r (cn_l (cn_r (cn_r (cn_r (cn_r (cn_l (cn_l hn))))))))) hle (fun j hj => ?_)
  match j, hj with
  | 0, _ => exact e0
  | 1, _ => exact e1
  | 2, _ => exact e2
  | 3, _ => exact e3
  | 4, _ => exact e4
  | j + 5, h => exact absurd (show j + 5 < 5 from h) (by omega)
set_option maxHeartbeats 4000000 in
set_option maxRecDepth 100000 in
theorem st_s16 {args : Array Value} {s : State} (htb : ∀ w ∈ lw_tbl, w.before args s = true) (hn : narrow_1.before args s = true) : ∃ q : Nat × Nat, st_S RX5 99 "forgets" [102, 111, 114, 103, 101, 116, 115] q s := by
  have e0 : (Cond.eq (.elem (.field (.string RX5 99) "java/lang/String" "value" "[B") (.int 0)) (.int 102)).before args s = true := (cn_l (cn_r (cn_r (cn_l (cn_l (cn_l (cn_l (cn_r (cn_l hn)))))))))
  have e1 : (Cond.eq (.elem (.field (.string RX5 99) "java/lang/String" "value" "[B") (.int 1)) (.int 111)).before args s = true := (cn_r (cn_r (cn_r (cn_l (cn_l (cn_l (cn_l (cn_r (cn_l hn)))))))))
  have e2 : (Cond.eq (.elem (.field (.string RX5 99) "java/lang/String" "value" "[B") (.int 2)) (.int 114)).before args s = true := (cn_l (cn_l (cn_r (cn_l (cn_l (cn_l (cn_r (cn_l hn))))))))
  have e3 : (Cond.eq (.elem (.field (.string RX5 99) "java/lang/String" "value" "[B") (.int 3)) (.int 103)).before args s = true := (cn_l (cn_r (cn_l (cn_r (cn_l (cn_l (cn_l (cn_r (cn_l hn)))))))))
  have e4 : (Cond.eq (.elem (.field (.string RX5 99) "java/lang/String" "value" "[B") (.int 4)) (.int 101)).before args s = true := (cn_r (cn_r (cn_l (cn_r (cn_l (cn_l (cn_l (cn_r (cn_l hn)))))))))
  have e5 : (Cond.eq (.elem (.field (.string RX5 99) "java/lang/String" "value" "[B") (.int 5)) (.int 116)).before args s = true := (cn_l (cn_l (cn_r (cn_r (cn_l (cn_l (cn_l (cn_r (cn_l hn)))))))))
  have e6 : (Cond.eq (.elem (.field (.string RX5 99) "java/lang/String" "value" "[B") (.int 6)) (.int 115)).before args s = true := (cn_r (cn_l (cn_r (cn_r (cn_l (cn_l (cn_l (cn_r (cn_l hn)))))))))
  have hle : (Cond.eq (.length (.field (.string RX5 99) "java/lang/String" "value" "[B")) (.int 7)).before args s = true := (cn_r (cn_l (cn_r (cn_l (cn_l (cn_l (cn_l (cn_r (cn_l hn)))))))))
  refine st_one (htb (.stringRef RX5 99 "forgets") (List.mem_append_right (k2_sels lw_privs) (show _ ∈ tables_1 from (List.mem_append_right _ (List.mem_append_right _ (List.mem_append_right _ (List.mem_append_left _ (List.mem_of_getElem? (i := 132) rfl)))))))) (by decide) (cn_l (cn_r (cn_l (cn_l (cn_l (cn_l (cn_l (cn_r (cn_l hn))))))))) (cn_r (cn_r (cn_l (cn_l (cn_l (cn_l (cn_l (cn_r (cn_l hn))))))))) (cn_l (cn_l (cn_r (cn_l (cn_l (cn_l (cn_l (cn_r (cn_l hn))))))))) hle (fun j hj => ?_)
  match j, hj with
  | 0, _ => exact e0
  | 1, _ => exact e1
  | 2, _ => exact e2
  | 3, _ => exact e3
  | 4, _ => exact e4
  | 5, _ => exact e5
  | 6, _ => exact e6
  | j + 7, h => exact absurd (show j + 7 < 7 from h) (by omega)
set_option maxHeartbeats 4000000 in
set_option maxRecDepth 100000 in
theorem st_s17 {args : Array Value} {s : State} (htb : ∀ w ∈ lw_tbl, w.before args s = true) (hn : narrow_1.before args s = true) : ∃ q : Nat × Nat, st_S RX5 104 "fills" [102, 105, 108, 108, 115] q s := by
  have e0 : (Cond.eq (.elem (.field (.string RX5 104) "java/lang/String" "value" "[B") (.int 0)) (.int 102)).before args s = true := (cn_r (cn_r (cn_l (cn_r (cn_r (cn_r (cn_r (cn_r (cn_l hn)))))))))
  have e1 : (Cond.eq (.elem (.field (.string RX5 104) "java/lang/String" "value" "[B") (.int 1)) (.int 105)).before args s = true := (cn_l (cn_l (cn_r (cn_r (cn_r (cn_r (cn_r (cn_r (cn_l hn)))))))))
  have e2 : (Cond.eq (.elem (.field (.string RX5 104) "java/lang/String" "value" "[B") (.int 2)) (.int 108)).before args s = true := (cn_r (cn_l (cn_r (cn_r (cn_r (cn_r (cn_r (cn_r (cn_l hn)))))))))
  have e3 : (Cond.eq (.elem (.field (.string RX5 104) "java/lang/String" "value" "[B") (.int 3)) (.int 108)).before args s = true := (cn_l (cn_r (cn_r (cn_r (cn_r (cn_r (cn_r (cn_r (cn_l hn)))))))))
  have e4 : (Cond.eq (.elem (.field (.string RX5 104) "java/lang/String" "value" "[B") (.int 4)) (.int 115)).before args s = true := (cn_r (cn_r (cn_r (cn_r (cn_r (cn_r (cn_r (cn_r (cn_l hn)))))))))
  have hle : (Cond.eq (.length (.field (.string RX5 104) "java/lang/String" "value" "[B")) (.int 5)).before args s = true := (cn_l (cn_r (cn_l (cn_r (cn_r (cn_r (cn_r (cn_r (cn_l hn)))))))))
  refine st_one (htb (.stringRef RX5 104 "fills") (List.mem_append_right (k2_sels lw_privs) (show _ ∈ tables_1 from (List.mem_append_right _ (List.mem_append_right _ (List.mem_append_right _ (List.mem_append_left _ (List.mem_of_getElem? (i := 210) rfl)))))))) (by decide) (cn_r (cn_r (cn_r (cn_l (cn_r (cn_r (cn_r (cn_r (cn_l hn))))))))) (cn_l (cn_l (cn_l (cn_r (cn_r (cn_r (cn_r (cn_r (cn_l hn))))))))) (cn_r (cn_l (cn_l (cn_r (cn_r (cn_r (cn_r (cn_r (cn_l hn))))))))) hle (fun j hj => ?_)
  match j, hj with
  | 0, _ => exact e0
  | 1, _ => exact e1
  | 2, _ => exact e2
  | 3, _ => exact e3
  | 4, _ => exact e4
  | j + 5, h => exact absurd (show j + 5 < 5 from h) (by omega)
set_option maxHeartbeats 4000000 in
set_option maxRecDepth 100000 in
theorem st_s18 {args : Array Value} {s : State} (htb : ∀ w ∈ lw_tbl, w.before args s = true) (hn : narrow_1.before args s = true) : ∃ q : Nat × Nat, st_S RX8 66 ";()+-*/<=" [59, 40, 41, 43, 45, 42, 47, 60, 61] q s := by
  have e0 : (Cond.eq (.elem (.field (.string RX8 66) "java/lang/String" "value" "[B") (.int 0)) (.int 59)).before args s = true := (cn_l (cn_l (cn_r (cn_l (cn_r (cn_l (cn_r (cn_l (cn_l hn)))))))))
  have e1 : (Cond.eq (.elem (.field (.string RX8 66) "java/lang/String" "value" "[B") (.int 1)) (.int 40)).before args s = true := (cn_r (cn_l (cn_r (cn_l (cn_r (cn_l (cn_r (cn_l (cn_l hn)))))))))
  have e2 : (Cond.eq (.elem (.field (.string RX8 66) "java/lang/String" "value" "[B") (.int 2)) (.int 41)).before args s = true := (cn_l (cn_r (cn_r (cn_l (cn_r (cn_l (cn_r (cn_l (cn_l hn)))))))))
  have e3 : (Cond.eq (.elem (.field (.string RX8 66) "java/lang/String" "value" "[B") (.int 3)) (.int 43)).before args s = true := (cn_r (cn_r (cn_r (cn_l (cn_r (cn_l (cn_r (cn_l (cn_l hn)))))))))
  have e4 : (Cond.eq (.elem (.field (.string RX8 66) "java/lang/String" "value" "[B") (.int 4)) (.int 45)).before args s = true := (cn_l (cn_l (cn_l (cn_r (cn_r (cn_l (cn_r (cn_l (cn_l hn)))))))))
  have e5 : (Cond.eq (.elem (.field (.string RX8 66) "java/lang/String" "value" "[B") (.int 5)) (.int 42)).before args s = true := (cn_r (cn_l (cn_l (cn_r (cn_r (cn_l (cn_r (cn_l (cn_l hn)))))))))
  have e6 : (Cond.eq (.elem (.field (.string RX8 66) "java/lang/String" "value" "[B") (.int 6)) (.int 47)).before args s = true := (cn_l (cn_r (cn_l (cn_r (cn_r (cn_l (cn_r (cn_l (cn_l hn)))))))))
  have e7 : (Cond.eq (.elem (.field (.string RX8 66) "java/lang/String" "value" "[B") (.int 7)) (.int 60)).before args s = true := (cn_r (cn_r (cn_l (cn_r (cn_r (cn_l (cn_r (cn_l (cn_l hn)))))))))
  have e8 : (Cond.eq (.elem (.field (.string RX8 66) "java/lang/String" "value" "[B") (.int 8)) (.int 61)).before args s = true := (cn_l (cn_l (cn_r (cn_r (cn_r (cn_l (cn_r (cn_l (cn_l hn)))))))))
  have hle : (Cond.eq (.length (.field (.string RX8 66) "java/lang/String" "value" "[B")) (.int 9)).before args s = true := (cn_r (cn_r (cn_l (cn_l (cn_r (cn_l (cn_r (cn_l (cn_l hn)))))))))
  refine st_one (htb (.stringRef RX8 66 ";()+-*/<=") (List.mem_append_right (k2_sels lw_privs) (show _ ∈ tables_1 from (List.mem_append_right _ (List.mem_append_right _ (List.mem_append_left _ (List.mem_of_getElem? (i := 208) rfl))))))) (by decide) (cn_r (cn_r (cn_r (cn_r (cn_l (cn_l (cn_r (cn_l (cn_l hn))))))))) (cn_l (cn_l (cn_l (cn_r (cn_l (cn_r (cn_l (cn_l hn)))))))) (cn_l (cn_r (cn_l (cn_l (cn_r (cn_l (cn_r (cn_l (cn_l hn))))))))) hle (fun j hj => ?_)
  match j, hj with
  | 0, _ => exact e0
  | 1, _ => exact e1
  | 2, _ => exact e2
  | 3, _ => exact e3
  | 4, _ => exact e4
  | 5, _ => exact e5
  | 6, _ => exact e6
  | 7, _ => exact e7
  | 8, _ => exact e8
  | j + 9, h => exact absurd (show j + 9 < 9 from h) (by omega)
set_option maxHeartbeats 4000000 in
set_option maxRecDepth 100000 in
theorem st_str {args : Array Value} {s : State} (htb : ∀ w ∈ lw_tbl, w.before args s = true) (hn : narrow_1.before args s = true) : ∀ i : Nat, ∃ q : Nat × Nat, st_S (gs_so i).1 (gs_so i).2.1 (gs_so i).2.2 (gs_sb i) q s := by
  intro i
  match i with
  | 0 => exact st_s0 htb hn
  | 1 => exact st_s1 htb hn
  | 2 => exact st_s2 htb hn
  | 3 => exact st_s3 htb hn
  | 4 => exact st_s4 htb hn
  | 5 => exact st_s5 htb hn
  | 6 => exact st_s6 htb hn
  | 7 => exact st_s7 htb hn
  | 8 => exact st_s8 htb hn
  | 9 => exact st_s9 htb hn
  | 10 => exact st_s10 htb hn
  | 11 => exact st_s11 htb hn
  | 12 => exact st_s12 htb hn
  | 13 => exact st_s13 htb hn
  | 14 => exact st_s14 htb hn
  | 15 => exact st_s15 htb hn
  | 16 => exact st_s16 htb hn
  | 17 => exact st_s17 htb hn
  | i + 18 => exact st_s18 htb hn
set_option maxHeartbeats 4000000 in
set_option maxRecDepth 100000 in
theorem st_xts {args : Array Value} {s : State} (htb : ∀ w ∈ lw_tbl, w.before args s = true) (hn : narrow_1.before args s = true) : ∀ i : Nat, ∃ sa : Nat, vk_R RX11 (gs_xt i).1 (gs_xt i).2 sa s := by
  intro i
  match i with
  | 0 => exact st_ref (own := RX11) (k := 113) (tx := "the tape has not so many bytes") (htb (.stringRef RX11 113 "the tape has not so many bytes") (List.mem_append_right (k2_sels lw_privs) (show _ ∈ tables_1 from (List.mem_append_right _ (List.mem_append_right _ (List.mem_append_left _ (List.mem_of_getElem? (i := 145) rfl))))))) (cn_l (cn_r (cn_l (cn_r (cn_l (cn_r (cn_l (cn_l (cn_l hn)))))))))
  | 1 => exact st_ref (own := RX11) (k := 164) (tx := "no such count") (htb (.stringRef RX11 164 "no such count") (List.mem_append_right (k2_sels lw_privs) (show _ ∈ tables_1 from (List.mem_append_right _ (List.mem_append_right _ (List.mem_append_right _ (List.mem_append_right _ (List.mem_append_left _ (List.mem_of_getElem? (i := 43) rfl))))))))) (cn_l (cn_l (cn_l (cn_l (cn_l (cn_l (cn_l (cn_r hn))))))))
  | 2 => exact st_ref (own := RX11) (k := 187) (tx := "no such what of a song") (htb (.stringRef RX11 187 "no such what of a song") (List.mem_append_right (k2_sels lw_privs) (show _ ∈ tables_1 from (List.mem_append_right _ (List.mem_append_right _ (List.mem_append_right _ (List.mem_append_right _ (List.mem_append_left _ (List.mem_of_getElem? (i := 85) rfl))))))))) (cn_r (cn_l (cn_r (cn_l (cn_l (cn_r (cn_l (cn_l (cn_r hn)))))))))
  | 3 => exact st_ref (own := RX11) (k := 207) (tx := "no such what of a person") (htb (.stringRef RX11 207 "no such what of a person") (List.mem_append_right (k2_sels lw_privs) (show _ ∈ tables_1 from (List.mem_append_right _ (List.mem_append_right _ (List.mem_append_right _ (List.mem_append_right _ (List.mem_append_left _ (List.mem_of_getElem? (i := 104) rfl))))))))) (cn_l (cn_r (cn_r (cn_l (cn_r (cn_l (cn_r (cn_l (cn_r hn)))))))))
  | 4 => exact st_ref (own := RX11) (k := 245) (tx := "no such what of a person's song") (htb (.stringRef RX11 245 "no such what of a person's song") (List.mem_append_right (k2_sels lw_privs) (show _ ∈ tables_1 from (List.mem_append_right _ (List.mem_append_right _ (List.mem_append_right _ (List.mem_append_right _ (List.mem_append_left _ (List.mem_of_getElem? (i := 148) rfl))))))))) (cn_l (cn_r (cn_r (cn_l (cn_l (cn_l (cn_l (cn_r (cn_r hn)))))))))
  | 5 => exact st_ref (own := RX11) (k := 406) (tx := "no such days or tenths") (htb (.stringRef RX11 406 "no such days or tenths") (List.mem_append_right (k2_sels lw_privs) (show _ ∈ tables_1 from (List.mem_append_right _ (List.mem_append_right _ (List.mem_append_right _ (List.mem_append_right _ (List.mem_append_right _ (List.mem_append_left _ (List.mem_of_getElem? (i := 156) rfl)))))))))) (cn_l (cn_l (cn_r (cn_l (cn_r (cn_l (cn_r (cn_r (cn_r hn)))))))))
  | 6 => exact st_ref (own := RX11) (k := 418) (tx := "both are one") (htb (.stringRef RX11 418 "both are one") (List.mem_append_right (k2_sels lw_privs) (show _ ∈ tables_1 from (List.mem_append_right _ (List.mem_append_right _ (List.mem_append_right _ (List.mem_append_right _ (List.mem_append_right _ (List.mem_append_left _ (List.mem_of_getElem? (i := 174) rfl)))))))))) (cn_r (cn_r (cn_r (cn_r (cn_l (cn_r (cn_r (cn_r (cn_r hn)))))))))
  | 7 => exact st_ref (own := RX11) (k := 444) (tx := "no such person") (htb (.stringRef RX11 444 "no such person") (List.mem_append_right (k2_sels lw_privs) (show _ ∈ tables_1 from (List.mem_append_right _ (List.mem_append_right _ (List.mem_append_right _ (List.mem_append_right _ (List.mem_append_left _ (List.mem_of_getElem? (i := 97) rfl))))))))) (cn_l (cn_r (cn_l (cn_l (cn_l (cn_l (cn_r (cn_l (cn_r hn)))))))))
  | 8 => exact st_ref (own := RX11) (k := 446) (tx := "no such song") (htb (.stringRef RX11 446 "no such song") (List.mem_append_right (k2_sels lw_privs) (show _ ∈ tables_1 from (List.mem_append_right _ (List.mem_append_right _ (List.mem_append_right _ (List.mem_append_right _ (List.mem_append_left _ (List.mem_of_getElem? (i := 61) rfl))))))))) (cn_l (cn_l (cn_r (cn_l (cn_r (cn_l (cn_l (cn_l (cn_r hn)))))))))
  | 9 => exact st_ref (own := RX11) (k := 448) (tx := "no such place") (htb (.stringRef RX11 448 "no such place") (List.mem_append_right (k2_sels lw_privs) (show _ ∈ tables_1 from (List.mem_append_right _ (List.mem_append_right _ (List.mem_append_right _ (List.mem_append_right _ (List.mem_append_left _ (List.mem_of_getElem? (i := 116) rfl))))))))) (cn_l (cn_l (cn_r (cn_l (cn_r (cn_r (cn_r (cn_l (cn_r hn)))))))))
  | 10 => exact st_ref (own := RX11) (k := 450) (tx := "no such what") (htb (.stringRef RX11 450 "no such what") (List.mem_append_right (k2_sels lw_privs) (show _ ∈ tables_1 from (List.mem_append_right _ (List.mem_append_right _ (List.mem_append_right _ (List.mem_append_right _ (List.mem_append_left _ (List.mem_of_getElem? (i := 208) rfl))))))))) (cn_l (cn_l (cn_r (cn_r (cn_l (cn_r (cn_l (cn_r (cn_r hn)))))))))
  | i + 11 => exact st_ref (own := RX11) (k := 452) (tx := "not so many days") (htb (.stringRef RX11 452 "not so many days") (List.mem_append_right (k2_sels lw_privs) (show _ ∈ tables_1 from (List.mem_append_right _ (List.mem_append_right _ (List.mem_append_right _ (List.mem_append_right _ (List.mem_append_left _ (List.mem_of_getElem? (i := 212) rfl))))))))) (cn_r (cn_l (cn_r (cn_r (cn_r (cn_r (cn_l (cn_r (cn_r hn)))))))))
set_option maxHeartbeats 4000000 in
set_option maxRecDepth 100000 in
theorem st_Amb {args : Array Value} {s : State} (htb : ∀ w ∈ lw_tbl, w.before args s = true) (hn : narrow_1.before args s = true) : ∃ J : gs_J, J.1 = s.heap.size ∧ gs_Amb J s := by
  obtain ⟨ad, had⟩ := Classical.axiomOfChoice (st_str htb hn)
  have hA : ∀ a : Nat, a < s.heap.size → ¬ (fun z : Nat => s.heap.size ≤ z) a := fun a h1 h2 => absurd h2 (Nat.not_le.mpr h1)
  have hq : va_Zq "jdk/internal/util/Preconditions" "SIOOBE_FORMATTER" "Ljava/util/function/BiFunction;" (fun z => s.heap.size ≤ z) s s.heap := va_Zqof (htb (.laysStatic "jdk/internal/util/Preconditions" "SIOOBE_FORMATTER" "Ljava/util/function/BiFunction;") (List.mem_append_right (k2_sels lw_privs) (show _ ∈ tables_1 from (List.mem_append_right _ (List.mem_append_right _ (List.mem_append_right _ (List.mem_append_left _ (List.mem_of_getElem? (i := 21) rfl)))))))) (htb (.initialized "jdk/internal/util/Preconditions") (List.mem_append_right (k2_sels lw_privs) (show _ ∈ tables_1 from (List.mem_append_left _ (List.mem_of_getElem? (i := 23) rfl))))) (cn_l (cn_r (cn_r (cn_l (cn_l (cn_l (cn_l (cn_l (cn_l hn))))))))) hA
  have hf : ∃ r : Option Nat, va_Z "jdk/internal/util/Preconditions" "SIOOBE_FORMATTER" "Ljava/util/function/BiFunction;" (va_rf r) (fun z => s.heap.size ≤ z) s s.heap := by
    rcases hq with h | ⟨t, h⟩
    · exact ⟨none, h⟩
    · exact ⟨some t, h⟩
  obtain ⟨r, hr⟩ := hf
  have hcs : (Cond.eq (.static "java/lang/String" "COMPACT_STRINGS" "Z") (.int 1)).before args s = true := (cn_r (cn_l (cn_r (cn_l (cn_l (cn_l (cn_l (cn_l (cn_l hn)))))))))
  have h3 : va_Z "java/lang/String" "COMPACT_STRINGS" "Z" (.int 1) (fun z => s.heap.size ≤ z) s s.heap := va_Zof (htb (.laysStatic "java/lang/String" "COMPACT_STRINGS" "Z") (List.mem_append_right (k2_sels lw_privs) (show _ ∈ tables_1 from (List.mem_append_right _ (List.mem_append_right _ (List.mem_append_left _ (List.mem_of_getElem? (i := 222) rfl))))))) (htb (.initialized "java/lang/String") (List.mem_append_right (k2_sels lw_privs) (show _ ∈ tables_1 from (List.mem_append_left _ (List.mem_of_getElem? (i := 20) rfl))))) (va_eqt hcs) hA
  have h5 : vx_Zq Bundle.tN "UNASSIGNED_STACK" Bundle.steD (fun z => s.heap.size ≤ z) s s.heap := vx_Zqof (htb (.laysStatic "java/lang/Throwable" "UNASSIGNED_STACK" "[Ljava/lang/StackTraceElement;") (List.mem_append_right (k2_sels lw_privs) (show _ ∈ tables_1 from (List.mem_append_right _ (List.mem_append_right _ (List.mem_append_left _ (List.mem_of_getElem? (i := 132) rfl))))))) (htb (.initialized "java/lang/Throwable") (List.mem_append_right (k2_sels lw_privs) (show _ ∈ tables_1 from (List.mem_append_left _ (List.mem_of_getElem? (i := 15) rfl))))) (cn_r (cn_r (cn_l (cn_l (cn_l (cn_l (cn_l (cn_l (cn_l hn))))))))) hA
  have h6 : vx_Zq Bundle.tN "SUPPRESSED_SENTINEL" Bundle.listD (fun z => s.heap.size ≤ z) s s.heap := vx_Zqof (htb (.laysStatic "java/lang/Throwable" "SUPPRESSED_SENTINEL" "Ljava/util/List;") (List.mem_append_right (k2_sels lw_privs) (show _ ∈ tables_1 from (List.mem_append_right _ (List.mem_append_right _ (List.mem_append_left _ (List.mem_of_getElem? (i := 134) rfl))))))) (htb (.initialized "java/lang/Throwable") (List.mem_append_right (k2_sels lw_privs) (show _ ∈ tables_1 from (List.mem_append_left _ (List.mem_of_getElem? (i := 15) rfl))))) (cn_l (cn_l (cn_r (cn_l (cn_l (cn_l (cn_l (cn_l (cn_l hn))))))))) hA
  exact ⟨(s.heap.size, fun i => (ad i).1, fun i => (ad i).2, r), rfl, fun i => ⟨(had i).2.1, (had i).2.2.1, (had i).2.2.2.1, (had i).2.2.2.2⟩, fun i => (had i).1, h3, hr, h5, h6, st_xts htb hn, (va_Nw.of rfl (htb (.castable "java/util/NoSuchElementException" "java/util/NoSuchElementException") (List.mem_append_right (k2_sels lw_privs) (show _ ∈ tables_1 from (List.mem_append_right _ (List.mem_append_right _ (List.mem_append_right _ (List.mem_append_right _ (List.mem_append_left _ (List.mem_of_getElem? (i := 36) rfl)))))))))), (va_Nw.of rfl (htb (.castable "java/lang/IllegalArgumentException" "java/lang/IllegalArgumentException") (List.mem_append_right (k2_sels lw_privs) (show _ ∈ tables_1 from (List.mem_append_right _ (List.mem_append_right _ (List.mem_append_left _ (List.mem_of_getElem? (i := 107) rfl)))))))), va_Nc.of (cn_l (cn_l (cn_r (cn_l (cn_r (cn_l (cn_l (cn_l hn)))))))), (va_Nw.of rfl (htb (.declares (Bundle.initS "java/lang/RuntimeException")) (List.mem_append_right (k2_sels lw_privs) (show _ ∈ tables_1 from (List.mem_append_right _ (List.mem_append_right _ (List.mem_append_left _ (List.mem_of_getElem? (i := 109) rfl)))))))), (va_Nw.of rfl (htb (.declares (Bundle.initS "java/lang/Exception")) (List.mem_append_right (k2_sels lw_privs) (show _ ∈ tables_1 from (List.mem_append_right _ (List.mem_append_right _ (List.mem_append_left _ (List.mem_of_getElem? (i := 111) rfl)))))))), (va_Nw.of rfl (htb (.declares (Bundle.initS Bundle.tN)) (List.mem_append_right (k2_sels lw_privs) (show _ ∈ tables_1 from (List.mem_append_right _ (List.mem_append_right _ (List.mem_append_left _ (List.mem_of_getElem? (i := 113) rfl))))))))⟩
