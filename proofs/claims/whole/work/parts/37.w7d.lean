set_option maxHeartbeats 4000000 in
set_option maxRecDepth 100000 in
theorem c_X7_byteAt (l : Launch) (dC : Nat → ClassId) (dI : Nat → Nat → Nat) (cI cJ cZ cA : ClassId) (aM aM_lane aM_many aM_item aM_beside aM_round aM_reads aM_tape aM_fewest aM_may aM_then aM_cases aM_next aM_trace : Nat) (M_thrown : Int32) (M_status : Int32) (M_posts : Int32) (M_rounds : Int32) (M_read : Int32) (M_taped : Int32) (M_latest : Int32) (M_length : Int32) (M_at : Int32) (M_sort : Int32) (M_from : Int32) (M_till : Int32) (M_fault : Int32) (M_faultAt : Int32) (M_traced : Int32) (M_tape : Nat → Int32) (p0 : Int32) (rr : Int32) (h : fX7_byteAt M_length M_tape p0 = some rr) : Cti l yX7_byteAt wsX7_byteAt rmX7_byteAt (dC, dI) (tyL cI cJ cZ cA) [(aM, .inr (7, [.int M_thrown, .int M_status, .ref aM_lane, .ref aM_many, .ref aM_item, .int M_posts, .ref aM_beside, .int M_rounds, .ref aM_round, .int M_read, .ref aM_reads, .ref aM_tape, .int M_taped, .int M_latest, .int M_length, .int M_at, .int M_sort, .int M_from, .int M_till, .int M_fault, .int M_faultAt, .ref aM_fewest, .ref aM_may, .ref aM_then, .ref aM_cases, .ref aM_next, .ref aM_trace, .int M_traced])), (aM_tape, .inl (cI, 300, .inl M_tape))] [(aM, .inr (7, [.int M_thrown, .int M_status, .ref aM_lane, .ref aM_many, .ref aM_item, .int M_posts, .ref aM_beside, .int M_rounds, .ref aM_round, .int M_read, .ref aM_reads, .ref aM_tape, .int M_taped, .int M_latest, .int M_length, .int M_at, .int M_sort, .int M_from, .int M_till, .int M_fault, .int M_faultAt, .ref aM_fewest, .ref aM_may, .ref aM_then, .ref aM_cases, .ref aM_next, .ref aM_trace, .int M_traced])), (aM_tape, .inl (cI, 300, .inl M_tape))] [.ref aM, .int p0] rr := by
  refine ct_int (ty := .int) (cc := cX7_byteAt) (maxL := 2) (by decide) rfl (Nat.le_of_ble_eq_true rfl) ?_
  intro p e s m args below meth c A Q ls hx hb hml hown hts hA hK hP hD hS hl hret
  have hl : lv_has ls 2 [(0, .ref aM), (1, .int p0)] := hl
  have k_0 := hts (.fieldLink RX7 126 "BeepNetModel" "length" "I") (by decide +kernel)
  have k_1 := hts (.constant RX7 86 (-1000000)) (by decide +kernel)
  have k_2 := hts (.fieldLink RX7 28 "BeepNetModel" "tape" "[I") (by decide +kernel)
  have hiX7 : ∀ w ∈ u_ws RX7 TX7 28, w ∈ wsX7_byteAt := fun w hw => List.mem_cons_of_mem _ (List.mem_append_right _ hw)
  unfold fX7_byteAt at h
  refine lv_iload_n hx hb dX7_byteAt_0 rfl (lv_at hl 1 rfl) ?_
  refine lv_aload_n hx hb dX7_byteAt_1 rfl (lv_at hl 0 rfl) ?_
  refine ka_get (v := .int M_length) (C := RX7) (T := TX7) (Nf := 28) (ref := "BeepNetModel") hx hb hts hiX7 hown hK hP 0 rfl rfl 14 (by decide) k_0 rfl rfl dX7_byteAt_2 ?_
  refine lv_icmp_ge (tgt := 17) hx hb dX7_byteAt_5 (by decide) (fun c1 => ?_) (fun c1 => ?_)
  · have h := ift c1 h
    refine lv_ldc hx hb hown k_1 dX7_byteAt_17 ?_
    obtain rfl := sj1 h
    exact hret _ _ _ _ _ rfl rfl hP hD hS dX7_byteAt_19
  · have h := ifn c1 h
    refine lv_aload_n hx hb dX7_byteAt_8 rfl (lv_at hl 0 rfl) ?_
    refine ka_get (v := .ref aM_tape) (C := RX7) (T := TX7) (Nf := 28) (ref := "BeepNetModel") hx hb hts hiX7 hown hK hP 0 rfl rfl 11 (by decide) k_2 rfl rfl dX7_byteAt_9 ?_
    refine lv_iload_n hx hb dX7_byteAt_12 rfl (lv_at hl 1 rfl) ?_
    obtain ⟨v2, ev2, hn3, h⟩ := ldx_s h
    refine ka_ild hx hb hK hP 1 0 ev2 rfl rfl hn3 dX7_byteAt_13 ?_
    refine lv_goto (tgt := 19) hx hb dX7_byteAt_14 (by decide) ?_
    obtain rfl := sj1 h
    exact hret _ _ _ _ _ rfl rfl hP hD hS dX7_byteAt_19
set_option maxHeartbeats 4000000 in
set_option maxRecDepth 100000 in
theorem c_X7_isLetter (l : Launch) (dC : Nat → ClassId) (dI : Nat → Nat → Nat) (cI cJ cZ cA : ClassId) (p0 : Int32) (rr : Int32) (h : fX7_isLetter p0 = some rr) : Cti l yX7_isLetter wsX7_isLetter rmX7_isLetter (dC, dI) (tyL cI cJ cZ cA) [] [] [.int p0] rr := by
  refine ct_int (ty := .boolean) (cc := cX7_isLetter) (maxL := 1) (by decide) rfl (Nat.le_of_ble_eq_true rfl) ?_
  intro p e s m args below meth c A Q ls hx hb hml hown hts hA hK hP hD hS hl hret
  have hl : lv_has ls 1 [(0, .int p0)] := hl
  unfold fX7_isLetter at h
  refine lv_iload_n hx hb dX7_isLetter_0 rfl (lv_at hl 0 rfl) ?_
  refine lv_bipush (v := 97) hx hb dX7_isLetter_1 (by decide) ?_
  refine lv_icmp_lt (tgt := 16) hx hb dX7_isLetter_3 (by decide) (fun c1 => ?_) (fun c1 => ?_)
  · have h := ift c1 h
    refine lv_iconst (v := 0) hx hb dX7_isLetter_16 (by decide) ?_
    obtain rfl := sj1 h
    exact hret _ _ _ _ _ rfl rfl hP hD hS dX7_isLetter_17
  · have h := ifn c1 h
    refine lv_iload_n hx hb dX7_isLetter_6 rfl (lv_at hl 0 rfl) ?_
    refine lv_bipush (v := 122) hx hb dX7_isLetter_7 (by decide) ?_
    refine lv_icmp_gt (tgt := 16) hx hb dX7_isLetter_9 (by decide) (fun c2 => ?_) (fun c2 => ?_)
    · have h := ift c2 h
      refine lv_iconst (v := 0) hx hb dX7_isLetter_16 (by decide) ?_
      obtain rfl := sj1 h
      exact hret _ _ _ _ _ rfl rfl hP hD hS dX7_isLetter_17
    · have h := ifn c2 h
      refine lv_iconst (v := 1) hx hb dX7_isLetter_12 (by decide) ?_
      refine lv_goto (tgt := 17) hx hb dX7_isLetter_13 (by decide) ?_
      obtain rfl := sj1 h
      exact hret _ _ _ _ _ rfl rfl hP hD hS dX7_isLetter_17
set_option maxHeartbeats 4000000 in
set_option maxRecDepth 100000 in
theorem c_X7_isFigure (l : Launch) (dC : Nat → ClassId) (dI : Nat → Nat → Nat) (cI cJ cZ cA : ClassId) (p0 : Int32) (rr : Int32) (h : fX7_isFigure p0 = some rr) : Cti l yX7_isFigure wsX7_isFigure rmX7_isFigure (dC, dI) (tyL cI cJ cZ cA) [] [] [.int p0] rr := by
  refine ct_int (ty := .boolean) (cc := cX7_isFigure) (maxL := 1) (by decide) rfl (Nat.le_of_ble_eq_true rfl) ?_
  intro p e s m args below meth c A Q ls hx hb hml hown hts hA hK hP hD hS hl hret
  have hl : lv_has ls 1 [(0, .int p0)] := hl
  unfold fX7_isFigure at h
  refine lv_iload_n hx hb dX7_isFigure_0 rfl (lv_at hl 0 rfl) ?_
  refine lv_bipush (v := 48) hx hb dX7_isFigure_1 (by decide) ?_
  refine lv_icmp_lt (tgt := 16) hx hb dX7_isFigure_3 (by decide) (fun c1 => ?_) (fun c1 => ?_)
  · have h := ift c1 h
    refine lv_iconst (v := 0) hx hb dX7_isFigure_16 (by decide) ?_
    obtain rfl := sj1 h
    exact hret _ _ _ _ _ rfl rfl hP hD hS dX7_isFigure_17
  · have h := ifn c1 h
    refine lv_iload_n hx hb dX7_isFigure_6 rfl (lv_at hl 0 rfl) ?_
    refine lv_bipush (v := 57) hx hb dX7_isFigure_7 (by decide) ?_
    refine lv_icmp_gt (tgt := 16) hx hb dX7_isFigure_9 (by decide) (fun c2 => ?_) (fun c2 => ?_)
    · have h := ift c2 h
      refine lv_iconst (v := 0) hx hb dX7_isFigure_16 (by decide) ?_
      obtain rfl := sj1 h
      exact hret _ _ _ _ _ rfl rfl hP hD hS dX7_isFigure_17
    · have h := ifn c2 h
      refine lv_iconst (v := 1) hx hb dX7_isFigure_12 (by decide) ?_
      refine lv_goto (tgt := 17) hx hb dX7_isFigure_13 (by decide) ?_
      obtain rfl := sj1 h
      exact hret _ _ _ _ _ rfl rfl hP hD hS dX7_isFigure_17
set_option maxHeartbeats 4000000 in
set_option maxRecDepth 100000 in
theorem c_X7_step (l : Launch) (dC : Nat → ClassId) (dI : Nat → Nat → Nat) (cI cJ cZ cA : ClassId) (aM aM_lane aM_many aM_item aM_beside aM_round aM_reads aM_tape aM_fewest aM_may aM_then aM_cases aM_next aM_trace : Nat) (M_thrown : Int32) (M_status : Int32) (M_posts : Int32) (M_rounds : Int32) (M_read : Int32) (M_taped : Int32) (M_latest : Int32) (M_length : Int32) (M_at : Int32) (M_sort : Int32) (M_from : Int32) (M_till : Int32) (M_fault : Int32) (M_faultAt : Int32) (M_traced : Int32) (M_tape : Nat → Int32) (M_at_z : Int32) (M_sort_z : Int32) (M_from_z : Int32) (M_till_z : Int32) (h : fX7_step M_length M_at M_sort M_from M_till M_tape = some (M_at_z, M_sort_z, M_from_z, M_till_z)) : Ctv l yX7_step wsX7_step rmX7_step (dC, dI) (tyL cI cJ cZ cA) [(aM, .inr (7, [.int M_thrown, .int M_status, .ref aM_lane, .ref aM_many, .ref aM_item, .int M_posts, .ref aM_beside, .int M_rounds, .ref aM_round, .int M_read, .ref aM_reads, .ref aM_tape, .int M_taped, .int M_latest, .int M_length, .int M_at, .int M_sort, .int M_from, .int M_till, .int M_fault, .int M_faultAt, .ref aM_fewest, .ref aM_may, .ref aM_then, .ref aM_cases, .ref aM_next, .ref aM_trace, .int M_traced])), (aM_tape, .inl (cI, 300, .inl M_tape))] [(aM, .inr (7, [.int M_thrown, .int M_status, .ref aM_lane, .ref aM_many, .ref aM_item, .int M_posts, .ref aM_beside, .int M_rounds, .ref aM_round, .int M_read, .ref aM_reads, .ref aM_tape, .int M_taped, .int M_latest, .int M_length, .int M_at_z, .int M_sort_z, .int M_from_z, .int M_till_z, .int M_fault, .int M_faultAt, .ref aM_fewest, .ref aM_may, .ref aM_then, .ref aM_cases, .ref aM_next, .ref aM_trace, .int M_traced])), (aM_tape, .inl (cI, 300, .inl M_tape))] [.ref aM] := by
  refine ct_void (cc := cX7_step) (maxL := 2) (by decide) rfl (Nat.le_of_ble_eq_true rfl) ?_
  intro p e s m args below meth c A Q ls hx hb hml hown hts hA hK hP hD hS hl hret
  have hl : lv_has ls 2 [(0, .ref aM)] := hl
  have k_0 := hts (.fieldLink RX7 129 "BeepNetModel" "at" "I") (by decide +kernel)
  have k_1 := hts (.fieldLink RX7 147 "BeepNetModel" "till" "I") (by decide +kernel)
  have k_2 := hts (.fieldLink RX7 138 "BeepNetModel" "sort" "I") (by decide +kernel)
  have k_3 := hts (.fieldLink RX7 135 "BeepNetModel" "from" "I") (by decide +kernel)
  have k_4 := hts (.constant RX7 86 (-1000000)) (by decide +kernel)
  have hiX7 : ∀ w ∈ u_ws RX7 TX7 28, w ∈ wsX7_step := fun w hw => List.mem_cons_of_mem _ (List.mem_append_right _ hw)
  have hC214 : ∀ (M_at : Int32) (M_sort : Int32) (M_from : Int32) (M_till : Int32) (H : Heap) (locs : List Loc) (ls : Array Slot), fX7_step_c214 M_length M_tape M_at M_sort M_from M_till = some (M_at_z, M_sort_z, M_from_z, M_till_z) → va_P (dC, dI) vwCl [(aM, .inr (7, [.int M_thrown, .int M_status, .ref aM_lane, .ref aM_many, .ref aM_item, .int M_posts, .ref aM_beside, .int M_rounds, .ref aM_round, .int M_read, .ref aM_reads, .ref aM_tape, .int M_taped, .int M_latest, .int M_length, .int M_at, .int M_sort, .int M_from, .int M_till, .int M_fault, .int M_faultAt, .ref aM_fewest, .ref aM_may, .ref aM_then, .ref aM_cases, .ref aM_next, .ref aM_trace, .int M_traced])), (aM_tape, .inl (cI, 300, .inl M_tape))] H → va_D A [(aM, .inr (7, [.int M_thrown, .int M_status, .ref aM_lane, .ref aM_many, .ref aM_item, .int M_posts, .ref aM_beside, .int M_rounds, .ref aM_round, .int M_read, .ref aM_reads, .ref aM_tape, .int M_taped, .int M_latest, .int M_length, .int M_at, .int M_sort, .int M_from, .int M_till, .int M_fault, .int M_faultAt, .ref aM_fewest, .ref aM_may, .ref aM_then, .ref aM_cases, .ref aM_next, .ref aM_trace, .int M_traced])), (aM_tape, .inl (cI, 300, .inl M_tape))] → va_S A s.heap H locs → lv_has ls 2 [(0, .ref aM)] → W p l e rmX7_step s m args below meth c H locs 0 0 Q (F0 m 214 ls []) := by
    intro M_at M_sort M_from M_till H locs ls h hP hD hS hl
    unfold fX7_step_c214 at h
    refine lv_aload_n hx hb dX7_step_214 rfl (lv_at hl 0 rfl) ?_
    refine lv_aload_n hx hb dX7_step_215 rfl (lv_at hl 0 rfl) ?_
    refine ka_get (v := .int M_at) (C := RX7) (T := TX7) (Nf := 28) (ref := "BeepNetModel") hx hb hts hiX7 hown hK hP 0 rfl rfl 15 (by decide) k_0 rfl rfl dX7_step_216 ?_
    refine ka_put (w1 := [(aM, .inr (7, [.int M_thrown, .int M_status, .ref aM_lane, .ref aM_many, .ref aM_item, .int M_posts, .ref aM_beside, .int M_rounds, .ref aM_round, .int M_read, .ref aM_reads, .ref aM_tape, .int M_taped, .int M_latest, .int M_length, .int M_at, .int M_sort, .int M_from, .int M_at, .int M_fault, .int M_faultAt, .ref aM_fewest, .ref aM_may, .ref aM_then, .ref aM_cases, .ref aM_next, .ref aM_trace, .int M_traced])), (aM_tape, .inl (cI, 300, .inl M_tape))]) (C := RX7) (T := TX7) (Nf := 28) (ref := "BeepNetModel") hx hb hts hiX7 tyX7 tyX7_ok nmX7 hown hK hP hD hS 0 rfl rfl 18 (by decide) k_1 rfl rfl rfl (Nat.le_of_ble_eq_true rfl) dX7_step_219 rfl (fun H locs hP hD hS => ?_)
    obtain ⟨rfl, rfl, rfl, rfl⟩ := sj4 h
    exact hret _ _ _ _ hP hD hS dX7_step_222
  have hC124 : ∀ (M_at : Int32) (M_sort : Int32) (M_from : Int32) (M_till : Int32) (t1 : Int32) (H : Heap) (locs : List Loc) (ls : Array Slot), fX7_step_c124 M_length M_tape M_at M_sort M_from M_till t1 = some (M_at_z, M_sort_z, M_from_z, M_till_z) → va_P (dC, dI) vwCl [(aM, .inr (7, [.int M_thrown, .int M_status, .ref aM_lane, .ref aM_many, .ref aM_item, .int M_posts, .ref aM_beside, .int M_rounds, .ref aM_round, .int M_read, .ref aM_reads, .ref aM_tape, .int M_taped, .int M_latest, .int M_length, .int M_at, .int M_sort, .int M_from, .int M_till, .int M_fault, .int M_faultAt, .ref aM_fewest, .ref aM_may, .ref aM_then, .ref aM_cases, .ref aM_next, .ref aM_trace, .int M_traced])), (aM_tape, .inl (cI, 300, .inl M_tape))] H → va_D A [(aM, .inr (7, [.int M_thrown, .int M_status, .ref aM_lane, .ref aM_many, .ref aM_item, .int M_posts, .ref aM_beside, .int M_rounds, .ref aM_round, .int M_read, .ref aM_reads, .ref aM_tape, .int M_taped, .int M_latest, .int M_length, .int M_at, .int M_sort, .int M_from, .int M_till, .int M_fault, .int M_faultAt, .ref aM_fewest, .ref aM_may, .ref aM_then, .ref aM_cases, .ref aM_next, .ref aM_trace, .int M_traced])), (aM_tape, .inl (cI, 300, .inl M_tape))] → va_S A s.heap H locs → lv_has ls 2 [(0, .ref aM)] → W p l e rmX7_step s m args below meth c H locs 0 0 Q (F0 m 124 ls [.int t1, .ref aM]) := by
    intro M_at M_sort M_from M_till t1 H locs ls h hP hD hS hl
    unfold fX7_step_c124 at h
    refine ka_put (w1 := [(aM, .inr (7, [.int M_thrown, .int M_status, .ref aM_lane, .ref aM_many, .ref aM_item, .int M_posts, .ref aM_beside, .int M_rounds, .ref aM_round, .int M_read, .ref aM_reads, .ref aM_tape, .int M_taped, .int M_latest, .int M_length, .int M_at, .int t1, .int M_from, .int M_till, .int M_fault, .int M_faultAt, .ref aM_fewest, .ref aM_may, .ref aM_then, .ref aM_cases, .ref aM_next, .ref aM_trace, .int M_traced])), (aM_tape, .inl (cI, 300, .inl M_tape))]) (C := RX7) (T := TX7) (Nf := 28) (ref := "BeepNetModel") hx hb hts hiX7 tyX7 tyX7_ok nmX7 hown hK hP hD hS 0 rfl rfl 16 (by decide) k_2 rfl rfl rfl (Nat.le_of_ble_eq_true rfl) dX7_step_124 rfl (fun H locs hP hD hS => ?_)
    refine lv_goto (tgt := 214) hx hb dX7_step_127 (by decide) ?_
    exact hC214 M_at t1 M_from M_till _ _ _ h hP hD hS (lv_sub hl [0] rfl)
  have hC77 : ∀ (n : Nat) (M_at : Int32) (M_sort : Int32) (M_from : Int32) (M_till : Int32) (H : Heap) (locs : List Loc) (ls : Array Slot), fX7_step_c77 M_length M_tape n M_at M_sort M_from M_till = some (M_at_z, M_sort_z, M_from_z, M_till_z) → va_P (dC, dI) vwCl [(aM, .inr (7, [.int M_thrown, .int M_status, .ref aM_lane, .ref aM_many, .ref aM_item, .int M_posts, .ref aM_beside, .int M_rounds, .ref aM_round, .int M_read, .ref aM_reads, .ref aM_tape, .int M_taped, .int M_latest, .int M_length, .int M_at, .int M_sort, .int M_from, .int M_till, .int M_fault, .int M_faultAt, .ref aM_fewest, .ref aM_may, .ref aM_then, .ref aM_cases, .ref aM_next, .ref aM_trace, .int M_traced])), (aM_tape, .inl (cI, 300, .inl M_tape))] H → va_D A [(aM, .inr (7, [.int M_thrown, .int M_status, .ref aM_lane, .ref aM_many, .ref aM_item, .int M_posts, .ref aM_beside, .int M_rounds, .ref aM_round, .int M_read, .ref aM_reads, .ref aM_tape, .int M_taped, .int M_latest, .int M_length, .int M_at, .int M_sort, .int M_from, .int M_till, .int M_fault, .int M_faultAt, .ref aM_fewest, .ref aM_may, .ref aM_then, .ref aM_cases, .ref aM_next, .ref aM_trace, .int M_traced])), (aM_tape, .inl (cI, 300, .inl M_tape))] → va_S A s.heap H locs → lv_has ls 2 [(0, .ref aM)] → W p l e rmX7_step s m args below meth c H locs 0 0 Q (F0 m 77 ls []) := by
    intro n
    induction n with
    | zero => intro M_at M_sort M_from M_till H locs ls h; rw [fX7_step_c77] at h; cases h
    | succ n77 ih77 =>
      intro M_at M_sort M_from M_till H locs ls h hP hD hS hl
      rw [fX7_step_c77] at h
      refine lv_aload_n hx hb dX7_step_77 rfl (lv_at hl 0 rfl) ?_
      refine lv_aload_n hx hb dX7_step_78 rfl (lv_at hl 0 rfl) ?_
      refine ka_get (v := .int M_at) (C := RX7) (T := TX7) (Nf := 28) (ref := "BeepNetModel") hx hb hts hiX7 hown hK hP 0 rfl rfl 15 (by decide) k_0 rfl rfl dX7_step_79 ?_
      obtain ⟨r7801, e7802, h⟩ := bd1_s h
      refine kc_vi (rest := []) (wr := []) (wF := [(aM, .inr (7, [.int M_thrown, .int M_status, .ref aM_lane, .ref aM_many, .ref aM_item, .int M_posts, .ref aM_beside, .int M_rounds, .ref aM_round, .int M_read, .ref aM_reads, .ref aM_tape, .int M_taped, .int M_latest, .int M_length, .int M_at, .int M_sort, .int M_from, .int M_till, .int M_fault, .int M_faultAt, .ref aM_fewest, .ref aM_may, .ref aM_then, .ref aM_cases, .ref aM_next, .ref aM_trace, .int M_traced])), (aM_tape, .inl (cI, 300, .inl M_tape))]) ⟨hx, hb, hml, hown, hts⟩ (c_X7_byteAt l dC dI cI cJ cZ cA aM aM_lane aM_many aM_item aM_beside aM_round aM_reads aM_tape aM_fewest aM_may aM_then aM_cases aM_next aM_trace M_thrown M_status M_posts M_rounds M_read M_taped M_latest M_length M_at M_sort M_from M_till M_fault M_faultAt M_traced M_tape M_at r7801 e7802) (cwV 1 hts gX7_step_X7_byteAt rfl rfl rfl (by decide +kernel) ⟨Nat.le_of_ble_eq_true rfl, Nat.le_of_ble_eq_true rfl⟩) hK hP hD hS hA [0, 1] [] [0, 1] 0 rfl rfl rfl rfl (by decide) rfl rfl rfl rfl rfl rfl hl.1 rfl (Nat.le_of_ble_eq_true rfl) dX7_step_82 ⟨Nat.zero_le _, Nat.zero_le _⟩ (fun H locs hP hD hS => ?_)
      obtain ⟨r7803, e7804, h⟩ := bd1_s h
      refine kc_si (rest := []) (wr := [(aM, .inr (7, [.int M_thrown, .int M_status, .ref aM_lane, .ref aM_many, .ref aM_item, .int M_posts, .ref aM_beside, .int M_rounds, .ref aM_round, .int M_read, .ref aM_reads, .ref aM_tape, .int M_taped, .int M_latest, .int M_length, .int M_at, .int M_sort, .int M_from, .int M_till, .int M_fault, .int M_faultAt, .ref aM_fewest, .ref aM_may, .ref aM_then, .ref aM_cases, .ref aM_next, .ref aM_trace, .int M_traced])), (aM_tape, .inl (cI, 300, .inl M_tape))]) (wF := [(aM, .inr (7, [.int M_thrown, .int M_status, .ref aM_lane, .ref aM_many, .ref aM_item, .int M_posts, .ref aM_beside, .int M_rounds, .ref aM_round, .int M_read, .ref aM_reads, .ref aM_tape, .int M_taped, .int M_latest, .int M_length, .int M_at, .int M_sort, .int M_from, .int M_till, .int M_fault, .int M_faultAt, .ref aM_fewest, .ref aM_may, .ref aM_then, .ref aM_cases, .ref aM_next, .ref aM_trace, .int M_traced])), (aM_tape, .inl (cI, 300, .inl M_tape))]) ⟨hx, hb, hml, hown, hts⟩ (c_X7_isLetter l dC dI cI cJ cZ cA r7801 r7803 e7804) (va_cwS 1 hts gX7_step_X7_isLetter rfl rfl rfl (by decide +kernel) ⟨Nat.le_of_ble_eq_true rfl, Nat.le_of_ble_eq_true rfl⟩) hK hP hD hS hA [] [0, 1] [0, 1] rfl rfl rfl rfl (by decide) rfl rfl rfl hl.1 rfl (Nat.le_of_ble_eq_true rfl) dX7_step_85 ⟨Nat.zero_le _, Nat.zero_le _⟩ (fun H locs hP hD hS => ?_)
      refine lv_if_eq (tgt := 104) hx hb dX7_step_88 (by decide) (fun c7805 => ?_) (fun c7805 => ?_)
      · have h := ift c7805 h
        refine lv_aload_n hx hb dX7_step_104 rfl (lv_at hl 0 rfl) ?_
        refine lv_aload_n hx hb dX7_step_105 rfl (lv_at hl 0 rfl) ?_
        refine ka_get (v := .int M_at) (C := RX7) (T := TX7) (Nf := 28) (ref := "BeepNetModel") hx hb hts hiX7 hown hK hP 0 rfl rfl 15 (by decide) k_0 rfl rfl dX7_step_106 ?_
        refine lv_aload_n hx hb dX7_step_109 rfl (lv_at hl 0 rfl) ?_
        refine ka_get (v := .int M_from) (C := RX7) (T := TX7) (Nf := 28) (ref := "BeepNetModel") hx hb hts hiX7 hown hK hP 0 rfl rfl 17 (by decide) k_3 rfl rfl dX7_step_110 ?_
        refine lv_isub hx hb dX7_step_113 ?_
        refine lv_bipush (v := 6) hx hb dX7_step_114 (by decide) ?_
        refine lv_icmp_le (tgt := 123) hx hb dX7_step_116 (by decide) (fun c7806 => ?_) (fun c7806 => ?_)
        · have h := ift c7806 h
          refine lv_iconst (v := 2) hx hb dX7_step_123 (by decide) ?_
          exact hC124 M_at M_sort M_from M_till 2 _ _ _ h hP hD hS (lv_sub hl [0] rfl)
        · have h := ifn c7806 h
          refine lv_iconst (v := 0) hx hb dX7_step_119 (by decide) ?_
          refine lv_goto (tgt := 124) hx hb dX7_step_120 (by decide) ?_
          exact hC124 M_at M_sort M_from M_till 0 _ _ _ h hP hD hS (lv_sub hl [0] rfl)
      · have h := ifn c7805 h
        refine lv_aload_n hx hb dX7_step_91 rfl (lv_at hl 0 rfl) ?_
        refine lv_dup hx hb dX7_step_92 rfl ?_
        refine ka_get (v := .int M_at) (C := RX7) (T := TX7) (Nf := 28) (ref := "BeepNetModel") hx hb hts hiX7 hown hK hP 0 rfl rfl 15 (by decide) k_0 rfl rfl dX7_step_93 ?_
        refine lv_iconst (v := 1) hx hb dX7_step_96 (by decide) ?_
        refine lv_iadd hx hb dX7_step_97 ?_
        refine ka_put (w1 := [(aM, .inr (7, [.int M_thrown, .int M_status, .ref aM_lane, .ref aM_many, .ref aM_item, .int M_posts, .ref aM_beside, .int M_rounds, .ref aM_round, .int M_read, .ref aM_reads, .ref aM_tape, .int M_taped, .int M_latest, .int M_length, .int (M_at + (1 : Int32)), .int M_sort, .int M_from, .int M_till, .int M_fault, .int M_faultAt, .ref aM_fewest, .ref aM_may, .ref aM_then, .ref aM_cases, .ref aM_next, .ref aM_trace, .int M_traced])), (aM_tape, .inl (cI, 300, .inl M_tape))]) (C := RX7) (T := TX7) (Nf := 28) (ref := "BeepNetModel") hx hb hts hiX7 tyX7 tyX7_ok nmX7 hown hK hP hD hS 0 rfl rfl 15 (by decide) k_0 rfl rfl rfl (Nat.le_of_ble_eq_true rfl) dX7_step_98 rfl (fun H locs hP hD hS => ?_)
        refine lv_goto (tgt := 77) hx hb dX7_step_101 (by decide) ?_
        exact ih77 (M_at + (1 : Int32)) M_sort M_from M_till _ _ _ h hP hD hS (lv_sub hl [0] rfl)
  have hC183 : ∀ (M_at : Int32) (M_sort : Int32) (M_from : Int32) (M_till : Int32) (t1 : Int32) (H : Heap) (locs : List Loc) (ls : Array Slot), fX7_step_c183 M_length M_tape M_at M_sort M_from M_till t1 = some (M_at_z, M_sort_z, M_from_z, M_till_z) → va_P (dC, dI) vwCl [(aM, .inr (7, [.int M_thrown, .int M_status, .ref aM_lane, .ref aM_many, .ref aM_item, .int M_posts, .ref aM_beside, .int M_rounds, .ref aM_round, .int M_read, .ref aM_reads, .ref aM_tape, .int M_taped, .int M_latest, .int M_length, .int M_at, .int M_sort, .int M_from, .int M_till, .int M_fault, .int M_faultAt, .ref aM_fewest, .ref aM_may, .ref aM_then, .ref aM_cases, .ref aM_next, .ref aM_trace, .int M_traced])), (aM_tape, .inl (cI, 300, .inl M_tape))] H → va_D A [(aM, .inr (7, [.int M_thrown, .int M_status, .ref aM_lane, .ref aM_many, .ref aM_item, .int M_posts, .ref aM_beside, .int M_rounds, .ref aM_round, .int M_read, .ref aM_reads, .ref aM_tape, .int M_taped, .int M_latest, .int M_length, .int M_at, .int M_sort, .int M_from, .int M_till, .int M_fault, .int M_faultAt, .ref aM_fewest, .ref aM_may, .ref aM_then, .ref aM_cases, .ref aM_next, .ref aM_trace, .int M_traced])), (aM_tape, .inl (cI, 300, .inl M_tape))] → va_S A s.heap H locs → lv_has ls 2 [(0, .ref aM)] → W p l e rmX7_step s m args below meth c H locs 0 0 Q (F0 m 183 ls [.int t1, .ref aM]) := by
    intro M_at M_sort M_from M_till t1 H locs ls h hP hD hS hl
    unfold fX7_step_c183 at h
    refine ka_put (w1 := [(aM, .inr (7, [.int M_thrown, .int M_status, .ref aM_lane, .ref aM_many, .ref aM_item, .int M_posts, .ref aM_beside, .int M_rounds, .ref aM_round, .int M_read, .ref aM_reads, .ref aM_tape, .int M_taped, .int M_latest, .int M_length, .int M_at, .int t1, .int M_from, .int M_till, .int M_fault, .int M_faultAt, .ref aM_fewest, .ref aM_may, .ref aM_then, .ref aM_cases, .ref aM_next, .ref aM_trace, .int M_traced])), (aM_tape, .inl (cI, 300, .inl M_tape))]) (C := RX7) (T := TX7) (Nf := 28) (ref := "BeepNetModel") hx hb hts hiX7 tyX7 tyX7_ok nmX7 hown hK hP hD hS 0 rfl rfl 16 (by decide) k_2 rfl rfl rfl (Nat.le_of_ble_eq_true rfl) dX7_step_183 rfl (fun H locs hP hD hS => ?_)
    refine lv_goto (tgt := 214) hx hb dX7_step_186 (by decide) ?_
    exact hC214 M_at t1 M_from M_till _ _ _ h hP hD hS (lv_sub hl [0] rfl)
  have hC137 : ∀ (n : Nat) (M_at : Int32) (M_sort : Int32) (M_from : Int32) (M_till : Int32) (H : Heap) (locs : List Loc) (ls : Array Slot), fX7_step_c137 M_length M_tape n M_at M_sort M_from M_till = some (M_at_z, M_sort_z, M_from_z, M_till_z) → va_P (dC, dI) vwCl [(aM, .inr (7, [.int M_thrown, .int M_status, .ref aM_lane, .ref aM_many, .ref aM_item, .int M_posts, .ref aM_beside, .int M_rounds, .ref aM_round, .int M_read, .ref aM_reads, .ref aM_tape, .int M_taped, .int M_latest, .int M_length, .int M_at, .int M_sort, .int M_from, .int M_till, .int M_fault, .int M_faultAt, .ref aM_fewest, .ref aM_may, .ref aM_then, .ref aM_cases, .ref aM_next, .ref aM_trace, .int M_traced])), (aM_tape, .inl (cI, 300, .inl M_tape))] H → va_D A [(aM, .inr (7, [.int M_thrown, .int M_status, .ref aM_lane, .ref aM_many, .ref aM_item, .int M_posts, .ref aM_beside, .int M_rounds, .ref aM_round, .int M_read, .ref aM_reads, .ref aM_tape, .int M_taped, .int M_latest, .int M_length, .int M_at, .int M_sort, .int M_from, .int M_till, .int M_fault, .int M_faultAt, .ref aM_fewest, .ref aM_may, .ref aM_then, .ref aM_cases, .ref aM_next, .ref aM_trace, .int M_traced])), (aM_tape, .inl (cI, 300, .inl M_tape))] → va_S A s.heap H locs → lv_has ls 2 [(0, .ref aM)] → W p l e rmX7_step s m args below meth c H locs 0 0 Q (F0 m 137 ls []) := by
    intro n
    induction n with
    | zero => intro M_at M_sort M_from M_till H locs ls h; rw [fX7_step_c137] at h; cases h
    | succ n137 ih137 =>
      intro M_at M_sort M_from M_till H locs ls h hP hD hS hl
      rw [fX7_step_c137] at h
      refine lv_aload_n hx hb dX7_step_137 rfl (lv_at hl 0 rfl) ?_
      refine lv_aload_n hx hb dX7_step_138 rfl (lv_at hl 0 rfl) ?_
      refine ka_get (v := .int M_at) (C := RX7) (T := TX7) (Nf := 28) (ref := "BeepNetModel") hx hb hts hiX7 hown hK hP 0 rfl rfl 15 (by decide) k_0 rfl rfl dX7_step_139 ?_
      obtain ⟨r13801, e13802, h⟩ := bd1_s h
      refine kc_vi (rest := []) (wr := []) (wF := [(aM, .inr (7, [.int M_thrown, .int M_status, .ref aM_lane, .ref aM_many, .ref aM_item, .int M_posts, .ref aM_beside, .int M_rounds, .ref aM_round, .int M_read, .ref aM_reads, .ref aM_tape, .int M_taped, .int M_latest, .int M_length, .int M_at, .int M_sort, .int M_from, .int M_till, .int M_fault, .int M_faultAt, .ref aM_fewest, .ref aM_may, .ref aM_then, .ref aM_cases, .ref aM_next, .ref aM_trace, .int M_traced])), (aM_tape, .inl (cI, 300, .inl M_tape))]) ⟨hx, hb, hml, hown, hts⟩ (c_X7_byteAt l dC dI cI cJ cZ cA aM aM_lane aM_many aM_item aM_beside aM_round aM_reads aM_tape aM_fewest aM_may aM_then aM_cases aM_next aM_trace M_thrown M_status M_posts M_rounds M_read M_taped M_latest M_length M_at M_sort M_from M_till M_fault M_faultAt M_traced M_tape M_at r13801 e13802) (cwV 1 hts gX7_step_X7_byteAt rfl rfl rfl (by decide +kernel) ⟨Nat.le_of_ble_eq_true rfl, Nat.le_of_ble_eq_true rfl⟩) hK hP hD hS hA [0, 1] [] [0, 1] 0 rfl rfl rfl rfl (by decide) rfl rfl rfl rfl rfl rfl hl.1 rfl (Nat.le_of_ble_eq_true rfl) dX7_step_142 ⟨Nat.zero_le _, Nat.zero_le _⟩ (fun H locs hP hD hS => ?_)
      obtain ⟨r13803, e13804, h⟩ := bd1_s h
      refine kc_si (rest := []) (wr := [(aM, .inr (7, [.int M_thrown, .int M_status, .ref aM_lane, .ref aM_many, .ref aM_item, .int M_posts, .ref aM_beside, .int M_rounds, .ref aM_round, .int M_read, .ref aM_reads, .ref aM_tape, .int M_taped, .int M_latest, .int M_length, .int M_at, .int M_sort, .int M_from, .int M_till, .int M_fault, .int M_faultAt, .ref aM_fewest, .ref aM_may, .ref aM_then, .ref aM_cases, .ref aM_next, .ref aM_trace, .int M_traced])), (aM_tape, .inl (cI, 300, .inl M_tape))]) (wF := [(aM, .inr (7, [.int M_thrown, .int M_status, .ref aM_lane, .ref aM_many, .ref aM_item, .int M_posts, .ref aM_beside, .int M_rounds, .ref aM_round, .int M_read, .ref aM_reads, .ref aM_tape, .int M_taped, .int M_latest, .int M_length, .int M_at, .int M_sort, .int M_from, .int M_till, .int M_fault, .int M_faultAt, .ref aM_fewest, .ref aM_may, .ref aM_then, .ref aM_cases, .ref aM_next, .ref aM_trace, .int M_traced])), (aM_tape, .inl (cI, 300, .inl M_tape))]) ⟨hx, hb, hml, hown, hts⟩ (c_X7_isFigure l dC dI cI cJ cZ cA r13801 r13803 e13804) (va_cwS 1 hts gX7_step_X7_isFigure rfl rfl rfl (by decide +kernel) ⟨Nat.le_of_ble_eq_true rfl, Nat.le_of_ble_eq_true rfl⟩) hK hP hD hS hA [] [0, 1] [0, 1] rfl rfl rfl rfl (by decide) rfl rfl rfl hl.1 rfl (Nat.le_of_ble_eq_true rfl) dX7_step_145 ⟨Nat.zero_le _, Nat.zero_le _⟩ (fun H locs hP hD hS => ?_)
      refine lv_if_eq (tgt := 164) hx hb dX7_step_148 (by decide) (fun c13805 => ?_) (fun c13805 => ?_)
      · have h := ift c13805 h
        refine lv_aload_n hx hb dX7_step_164 rfl (lv_at hl 0 rfl) ?_
        refine lv_aload_n hx hb dX7_step_165 rfl (lv_at hl 0 rfl) ?_
        refine ka_get (v := .int M_at) (C := RX7) (T := TX7) (Nf := 28) (ref := "BeepNetModel") hx hb hts hiX7 hown hK hP 0 rfl rfl 15 (by decide) k_0 rfl rfl dX7_step_166 ?_
        refine lv_aload_n hx hb dX7_step_169 rfl (lv_at hl 0 rfl) ?_
        refine ka_get (v := .int M_from) (C := RX7) (T := TX7) (Nf := 28) (ref := "BeepNetModel") hx hb hts hiX7 hown hK hP 0 rfl rfl 17 (by decide) k_3 rfl rfl dX7_step_170 ?_
        refine lv_isub hx hb dX7_step_173 ?_
        refine lv_iconst (v := 2) hx hb dX7_step_174 (by decide) ?_
        refine lv_icmp_le (tgt := 182) hx hb dX7_step_175 (by decide) (fun c13806 => ?_) (fun c13806 => ?_)
        · have h := ift c13806 h
          refine lv_iconst (v := 3) hx hb dX7_step_182 (by decide) ?_
          exact hC183 M_at M_sort M_from M_till 3 _ _ _ h hP hD hS (lv_sub hl [0] rfl)
        · have h := ifn c13806 h
          refine lv_iconst (v := 0) hx hb dX7_step_178 (by decide) ?_
          refine lv_goto (tgt := 183) hx hb dX7_step_179 (by decide) ?_
          exact hC183 M_at M_sort M_from M_till 0 _ _ _ h hP hD hS (lv_sub hl [0] rfl)
      · have h := ifn c13805 h
        refine lv_aload_n hx hb dX7_step_151 rfl (lv_at hl 0 rfl) ?_
        refine lv_dup hx hb dX7_step_152 rfl ?_
        refine ka_get (v := .int M_at) (C := RX7) (T := TX7) (Nf := 28) (ref := "BeepNetModel") hx hb hts hiX7 hown hK hP 0 rfl rfl 15 (by decide) k_0 rfl rfl dX7_step_153 ?_
        refine lv_iconst (v := 1) hx hb dX7_step_156 (by decide) ?_
        refine lv_iadd hx hb dX7_step_157 ?_
        refine ka_put (w1 := [(aM, .inr (7, [.int M_thrown, .int M_status, .ref aM_lane, .ref aM_many, .ref aM_item, .int M_posts, .ref aM_beside, .int M_rounds, .ref aM_round, .int M_read, .ref aM_reads, .ref aM_tape, .int M_taped, .int M_latest, .int M_length, .int (M_at + (1 : Int32)), .int M_sort, .int M_from, .int M_till, .int M_fault, .int M_faultAt, .ref aM_fewest, .ref aM_may, .ref aM_then, .ref aM_cases, .ref aM_next, .ref aM_trace, .int M_traced])), (aM_tape, .inl (cI, 300, .inl M_tape))]) (C := RX7) (T := TX7) (Nf := 28) (ref := "BeepNetModel") hx hb hts hiX7 tyX7 tyX7_ok nmX7 hown hK hP hD hS 0 rfl rfl 15 (by decide) k_0 rfl rfl rfl (Nat.le_of_ble_eq_true rfl) dX7_step_158 rfl (fun H locs hP hD hS => ?_)
        refine lv_goto (tgt := 137) hx hb dX7_step_161 (by decide) ?_
        exact ih137 (M_at + (1 : Int32)) M_sort M_from M_till _ _ _ h hP hD hS (lv_sub hl [0] rfl)
  have hC211 : ∀ (M_at : Int32) (M_sort : Int32) (M_from : Int32) (M_till : Int32) (t1 : Int32) (H : Heap) (locs : List Loc) (ls : Array Slot), fX7_step_c211 M_length M_tape M_at M_sort M_from M_till t1 = some (M_at_z, M_sort_z, M_from_z, M_till_z) → va_P (dC, dI) vwCl [(aM, .inr (7, [.int M_thrown, .int M_status, .ref aM_lane, .ref aM_many, .ref aM_item, .int M_posts, .ref aM_beside, .int M_rounds, .ref aM_round, .int M_read, .ref aM_reads, .ref aM_tape, .int M_taped, .int M_latest, .int M_length, .int M_at, .int M_sort, .int M_from, .int M_till, .int M_fault, .int M_faultAt, .ref aM_fewest, .ref aM_may, .ref aM_then, .ref aM_cases, .ref aM_next, .ref aM_trace, .int M_traced])), (aM_tape, .inl (cI, 300, .inl M_tape))] H → va_D A [(aM, .inr (7, [.int M_thrown, .int M_status, .ref aM_lane, .ref aM_many, .ref aM_item, .int M_posts, .ref aM_beside, .int M_rounds, .ref aM_round, .int M_read, .ref aM_reads, .ref aM_tape, .int M_taped, .int M_latest, .int M_length, .int M_at, .int M_sort, .int M_from, .int M_till, .int M_fault, .int M_faultAt, .ref aM_fewest, .ref aM_may, .ref aM_then, .ref aM_cases, .ref aM_next, .ref aM_trace, .int M_traced])), (aM_tape, .inl (cI, 300, .inl M_tape))] → va_S A s.heap H locs → lv_has ls 2 [(0, .ref aM)] → W p l e rmX7_step s m args below meth c H locs 0 0 Q (F0 m 211 ls [.int t1, .ref aM]) := by
    intro M_at M_sort M_from M_till t1 H locs ls h hP hD hS hl
    unfold fX7_step_c211 at h
    refine ka_put (w1 := [(aM, .inr (7, [.int M_thrown, .int M_status, .ref aM_lane, .ref aM_many, .ref aM_item, .int M_posts, .ref aM_beside, .int M_rounds, .ref aM_round, .int M_read, .ref aM_reads, .ref aM_tape, .int M_taped, .int M_latest, .int M_length, .int M_at, .int t1, .int M_from, .int M_till, .int M_fault, .int M_faultAt, .ref aM_fewest, .ref aM_may, .ref aM_then, .ref aM_cases, .ref aM_next, .ref aM_trace, .int M_traced])), (aM_tape, .inl (cI, 300, .inl M_tape))]) (C := RX7) (T := TX7) (Nf := 28) (ref := "BeepNetModel") hx hb hts hiX7 tyX7 tyX7_ok nmX7 hown hK hP hD hS 0 rfl rfl 16 (by decide) k_2 rfl rfl rfl (Nat.le_of_ble_eq_true rfl) dX7_step_211 rfl (fun H locs hP hD hS => ?_)
    exact hC214 M_at t1 M_from M_till _ _ _ h hP hD hS (lv_sub hl [0] rfl)
  have hC0 : ∀ (n : Nat) (M_at : Int32) (M_sort : Int32) (M_from : Int32) (M_till : Int32) (H : Heap) (locs : List Loc) (ls : Array Slot), fX7_step_c0 M_length M_tape n M_at M_sort M_from M_till = some (M_at_z, M_sort_z, M_from_z, M_till_z) → va_P (dC, dI) vwCl [(aM, .inr (7, [.int M_thrown, .int M_status, .ref aM_lane, .ref aM_many, .ref aM_item, .int M_posts, .ref aM_beside, .int M_rounds, .ref aM_round, .int M_read, .ref aM_reads, .ref aM_tape, .int M_taped, .int M_latest, .int M_length, .int M_at, .int M_sort, .int M_from, .int M_till, .int M_fault, .int M_faultAt, .ref aM_fewest, .ref aM_may, .ref aM_then, .ref aM_cases, .ref aM_next, .ref aM_trace, .int M_traced])), (aM_tape, .inl (cI, 300, .inl M_tape))] H → va_D A [(aM, .inr (7, [.int M_thrown, .int M_status, .ref aM_lane, .ref aM_many, .ref aM_item, .int M_posts, .ref aM_beside, .int M_rounds, .ref aM_round, .int M_read, .ref aM_reads, .ref aM_tape, .int M_taped, .int M_latest, .int M_length, .int M_at, .int M_sort, .int M_from, .int M_till, .int M_fault, .int M_faultAt, .ref aM_fewest, .ref aM_may, .ref aM_then, .ref aM_cases, .ref aM_next, .ref aM_trace, .int M_traced])), (aM_tape, .inl (cI, 300, .inl M_tape))] → va_S A s.heap H locs → lv_has ls 2 [(0, .ref aM)] → W p l e rmX7_step s m args below meth c H locs 0 0 Q (F0 m 0 ls []) := by
    intro n
    induction n with
    | zero => intro M_at M_sort M_from M_till H locs ls h; rw [fX7_step_c0] at h; cases h
    | succ n0 ih0 =>
      have hC26 : ∀ (M_at : Int32) (M_sort : Int32) (M_from : Int32) (M_till : Int32) (H : Heap) (locs : List Loc) (ls : Array Slot), fX7_step_c26 M_length M_tape (fX7_step_c0 M_length M_tape n0) M_at M_sort M_from M_till = some (M_at_z, M_sort_z, M_from_z, M_till_z) → va_P (dC, dI) vwCl [(aM, .inr (7, [.int M_thrown, .int M_status, .ref aM_lane, .ref aM_many, .ref aM_item, .int M_posts, .ref aM_beside, .int M_rounds, .ref aM_round, .int M_read, .ref aM_reads, .ref aM_tape, .int M_taped, .int M_latest, .int M_length, .int M_at, .int M_sort, .int M_from, .int M_till, .int M_fault, .int M_faultAt, .ref aM_fewest, .ref aM_may, .ref aM_then, .ref aM_cases, .ref aM_next, .ref aM_trace, .int M_traced])), (aM_tape, .inl (cI, 300, .inl M_tape))] H → va_D A [(aM, .inr (7, [.int M_thrown, .int M_status, .ref aM_lane, .ref aM_many, .ref aM_item, .int M_posts, .ref aM_beside, .int M_rounds, .ref aM_round, .int M_read, .ref aM_reads, .ref aM_tape, .int M_taped, .int M_latest, .int M_length, .int M_at, .int M_sort, .int M_from, .int M_till, .int M_fault, .int M_faultAt, .ref aM_fewest, .ref aM_may, .ref aM_then, .ref aM_cases, .ref aM_next, .ref aM_trace, .int M_traced])), (aM_tape, .inl (cI, 300, .inl M_tape))] → va_S A s.heap H locs → lv_has ls 2 [(0, .ref aM)] → W p l e rmX7_step s m args below meth c H locs 0 0 Q (F0 m 26 ls []) := by
        intro M_at M_sort M_from M_till H locs ls h hP hD hS hl
        unfold fX7_step_c26 at h
        refine lv_aload_n hx hb dX7_step_26 rfl (lv_at hl 0 rfl) ?_
        refine lv_dup hx hb dX7_step_27 rfl ?_
        refine ka_get (v := .int M_at) (C := RX7) (T := TX7) (Nf := 28) (ref := "BeepNetModel") hx hb hts hiX7 hown hK hP 0 rfl rfl 15 (by decide) k_0 rfl rfl dX7_step_28 ?_
        refine lv_iconst (v := 1) hx hb dX7_step_31 (by decide) ?_
        refine lv_iadd hx hb dX7_step_32 ?_
        refine ka_put (w1 := [(aM, .inr (7, [.int M_thrown, .int M_status, .ref aM_lane, .ref aM_many, .ref aM_item, .int M_posts, .ref aM_beside, .int M_rounds, .ref aM_round, .int M_read, .ref aM_reads, .ref aM_tape, .int M_taped, .int M_latest, .int M_length, .int (M_at + (1 : Int32)), .int M_sort, .int M_from, .int M_till, .int M_fault, .int M_faultAt, .ref aM_fewest, .ref aM_may, .ref aM_then, .ref aM_cases, .ref aM_next, .ref aM_trace, .int M_traced])), (aM_tape, .inl (cI, 300, .inl M_tape))]) (C := RX7) (T := TX7) (Nf := 28) (ref := "BeepNetModel") hx hb hts hiX7 tyX7 tyX7_ok nmX7 hown hK hP hD hS 0 rfl rfl 15 (by decide) k_0 rfl rfl rfl (Nat.le_of_ble_eq_true rfl) dX7_step_33 rfl (fun H locs hP hD hS => ?_)
        refine lv_goto (tgt := 0) hx hb dX7_step_36 (by decide) ?_
        exact ih0 (M_at + (1 : Int32)) M_sort M_from M_till _ _ _ h hP hD hS (lv_sub hl [0] rfl)
      intro M_at M_sort M_from M_till H locs ls h hP hD hS hl
      rw [fX7_step_c0] at h
      refine lv_aload_n hx hb dX7_step_0 rfl (lv_at hl 0 rfl) ?_
      refine lv_aload_n hx hb dX7_step_1 rfl (lv_at hl 0 rfl) ?_
      refine ka_get (v := .int M_at) (C := RX7) (T := TX7) (Nf := 28) (ref := "BeepNetModel") hx hb hts hiX7 hown hK hP 0 rfl rfl 15 (by decide) k_0 rfl rfl dX7_step_2 ?_
      obtain ⟨r101, e102, h⟩ := bd1_s h
      refine kc_vi (rest := []) (wr := []) (wF := [(aM, .inr (7, [.int M_thrown, .int M_status, .ref aM_lane, .ref aM_many, .ref aM_item, .int M_posts, .ref aM_beside, .int M_rounds, .ref aM_round, .int M_read, .ref aM_reads, .ref aM_tape, .int M_taped, .int M_latest, .int M_length, .int M_at, .int M_sort, .int M_from, .int M_till, .int M_fault, .int M_faultAt, .ref aM_fewest, .ref aM_may, .ref aM_then, .ref aM_cases, .ref aM_next, .ref aM_trace, .int M_traced])), (aM_tape, .inl (cI, 300, .inl M_tape))]) ⟨hx, hb, hml, hown, hts⟩ (c_X7_byteAt l dC dI cI cJ cZ cA aM aM_lane aM_many aM_item aM_beside aM_round aM_reads aM_tape aM_fewest aM_may aM_then aM_cases aM_next aM_trace M_thrown M_status M_posts M_rounds M_read M_taped M_latest M_length M_at M_sort M_from M_till M_fault M_faultAt M_traced M_tape M_at r101 e102) (cwV 1 hts gX7_step_X7_byteAt rfl rfl rfl (by decide +kernel) ⟨Nat.le_of_ble_eq_true rfl, Nat.le_of_ble_eq_true rfl⟩) hK hP hD hS hA [0, 1] [] [0, 1] 0 rfl rfl rfl rfl (by decide) rfl rfl rfl rfl rfl rfl hl.1 rfl (Nat.le_of_ble_eq_true rfl) dX7_step_5 ⟨Nat.zero_le _, Nat.zero_le _⟩ (fun H locs hP hD hS => ?_)
      refine lv_bipush (v := 32) hx hb dX7_step_8 (by decide) ?_
      refine lv_icmp_eq (tgt := 26) hx hb dX7_step_10 (by decide) (fun c103 => ?_) (fun c103 => ?_)
      · have h := ift c103 h
        exact hC26 M_at M_sort M_from M_till _ _ _ h hP hD hS (lv_sub hl [0] rfl)
      · have h := ifn c103 h
        refine lv_aload_n hx hb dX7_step_13 rfl (lv_at hl 0 rfl) ?_
        refine lv_aload_n hx hb dX7_step_14 rfl (lv_at hl 0 rfl) ?_
        refine ka_get (v := .int M_at) (C := RX7) (T := TX7) (Nf := 28) (ref := "BeepNetModel") hx hb hts hiX7 hown hK hP 0 rfl rfl 15 (by decide) k_0 rfl rfl dX7_step_15 ?_
        obtain ⟨r104, e105, h⟩ := bd1_s h
        refine kc_vi (rest := []) (wr := []) (wF := [(aM, .inr (7, [.int M_thrown, .int M_status, .ref aM_lane, .ref aM_many, .ref aM_item, .int M_posts, .ref aM_beside, .int M_rounds, .ref aM_round, .int M_read, .ref aM_reads, .ref aM_tape, .int M_taped, .int M_latest, .int M_length, .int M_at, .int M_sort, .int M_from, .int M_till, .int M_fault, .int M_faultAt, .ref aM_fewest, .ref aM_may, .ref aM_then, .ref aM_cases, .ref aM_next, .ref aM_trace, .int M_traced])), (aM_tape, .inl (cI, 300, .inl M_tape))]) ⟨hx, hb, hml, hown, hts⟩ (c_X7_byteAt l dC dI cI cJ cZ cA aM aM_lane aM_many aM_item aM_beside aM_round aM_reads aM_tape aM_fewest aM_may aM_then aM_cases aM_next aM_trace M_thrown M_status M_posts M_rounds M_read M_taped M_latest M_length M_at M_sort M_from M_till M_fault M_faultAt M_traced M_tape M_at r104 e105) (cwV 1 hts gX7_step_X7_byteAt rfl rfl rfl (by decide +kernel) ⟨Nat.le_of_ble_eq_true rfl, Nat.le_of_ble_eq_true rfl⟩) hK hP hD hS hA [0, 1] [] [0, 1] 0 rfl rfl rfl rfl (by decide) rfl rfl rfl rfl rfl rfl hl.1 rfl (Nat.le_of_ble_eq_true rfl) dX7_step_18 ⟨Nat.zero_le _, Nat.zero_le _⟩ (fun H locs hP hD hS => ?_)
        refine lv_bipush (v := 10) hx hb dX7_step_21 (by decide) ?_
        refine lv_icmp_ne (tgt := 39) hx hb dX7_step_23 (by decide) (fun c106 => ?_) (fun c106 => ?_)
        · have h := ifn c106 h
          refine lv_aload_n hx hb dX7_step_39 rfl (lv_at hl 0 rfl) ?_
          refine lv_aload_n hx hb dX7_step_40 rfl (lv_at hl 0 rfl) ?_
          refine ka_get (v := .int M_at) (C := RX7) (T := TX7) (Nf := 28) (ref := "BeepNetModel") hx hb hts hiX7 hown hK hP 0 rfl rfl 15 (by decide) k_0 rfl rfl dX7_step_41 ?_
          refine ka_put (w1 := [(aM, .inr (7, [.int M_thrown, .int M_status, .ref aM_lane, .ref aM_many, .ref aM_item, .int M_posts, .ref aM_beside, .int M_rounds, .ref aM_round, .int M_read, .ref aM_reads, .ref aM_tape, .int M_taped, .int M_latest, .int M_length, .int M_at, .int M_sort, .int M_at, .int M_till, .int M_fault, .int M_faultAt, .ref aM_fewest, .ref aM_may, .ref aM_then, .ref aM_cases, .ref aM_next, .ref aM_trace, .int M_traced])), (aM_tape, .inl (cI, 300, .inl M_tape))]) (C := RX7) (T := TX7) (Nf := 28) (ref := "BeepNetModel") hx hb hts hiX7 tyX7 tyX7_ok nmX7 hown hK hP hD hS 0 rfl rfl 17 (by decide) k_3 rfl rfl rfl (Nat.le_of_ble_eq_true rfl) dX7_step_44 rfl (fun H locs hP hD hS => ?_)
          refine lv_aload_n hx hb dX7_step_47 rfl (lv_at hl 0 rfl) ?_
          refine lv_aload_n hx hb dX7_step_48 rfl (lv_at hl 0 rfl) ?_
          refine ka_get (v := .int M_at) (C := RX7) (T := TX7) (Nf := 28) (ref := "BeepNetModel") hx hb hts hiX7 hown hK hP 0 rfl rfl 15 (by decide) k_0 rfl rfl dX7_step_49 ?_
          obtain ⟨r107, e108, h⟩ := bd1_s h
          refine kc_vi (rest := []) (wr := []) (wF := [(aM, .inr (7, [.int M_thrown, .int M_status, .ref aM_lane, .ref aM_many, .ref aM_item, .int M_posts, .ref aM_beside, .int M_rounds, .ref aM_round, .int M_read, .ref aM_reads, .ref aM_tape, .int M_taped, .int M_latest, .int M_length, .int M_at, .int M_sort, .int M_at, .int M_till, .int M_fault, .int M_faultAt, .ref aM_fewest, .ref aM_may, .ref aM_then, .ref aM_cases, .ref aM_next, .ref aM_trace, .int M_traced])), (aM_tape, .inl (cI, 300, .inl M_tape))]) ⟨hx, hb, hml, hown, hts⟩ (c_X7_byteAt l dC dI cI cJ cZ cA aM aM_lane aM_many aM_item aM_beside aM_round aM_reads aM_tape aM_fewest aM_may aM_then aM_cases aM_next aM_trace M_thrown M_status M_posts M_rounds M_read M_taped M_latest M_length M_at M_sort M_at M_till M_fault M_faultAt M_traced M_tape M_at r107 e108) (cwV 1 hts gX7_step_X7_byteAt rfl rfl rfl (by decide +kernel) ⟨Nat.le_of_ble_eq_true rfl, Nat.le_of_ble_eq_true rfl⟩) hK hP hD hS hA [0, 1] [] [0, 1] 0 rfl rfl rfl rfl (by decide) rfl rfl rfl rfl rfl rfl hl.1 rfl (Nat.le_of_ble_eq_true rfl) dX7_step_52 ⟨Nat.zero_le _, Nat.zero_le _⟩ (fun H locs hP hD hS => ?_)
          refine lv_istore_n (lv' := [(1, .int r107), (0, .ref aM)]) hx hb dX7_step_55 rfl hl (by decide) rfl (fun ls hl => ?_)
          refine lv_iload_n hx hb dX7_step_56 rfl (lv_at hl 0 rfl) ?_
          refine lv_ldc hx hb hown k_4 dX7_step_57 ?_
          refine lv_icmp_ne (tgt := 70) hx hb dX7_step_59 (by decide) (fun c109 => ?_) (fun c109 => ?_)
          · have h := ifn c109 h
            refine lv_iload_n hx hb dX7_step_70 rfl (lv_at hl 0 rfl) ?_
            obtain ⟨r110, e111, h⟩ := bd1_s h
            refine kc_si (rest := []) (wr := [(aM, .inr (7, [.int M_thrown, .int M_status, .ref aM_lane, .ref aM_many, .ref aM_item, .int M_posts, .ref aM_beside, .int M_rounds, .ref aM_round, .int M_read, .ref aM_reads, .ref aM_tape, .int M_taped, .int M_latest, .int M_length, .int M_at, .int M_sort, .int M_at, .int M_till, .int M_fault, .int M_faultAt, .ref aM_fewest, .ref aM_may, .ref aM_then, .ref aM_cases, .ref aM_next, .ref aM_trace, .int M_traced])), (aM_tape, .inl (cI, 300, .inl M_tape))]) (wF := [(aM, .inr (7, [.int M_thrown, .int M_status, .ref aM_lane, .ref aM_many, .ref aM_item, .int M_posts, .ref aM_beside, .int M_rounds, .ref aM_round, .int M_read, .ref aM_reads, .ref aM_tape, .int M_taped, .int M_latest, .int M_length, .int M_at, .int M_sort, .int M_at, .int M_till, .int M_fault, .int M_faultAt, .ref aM_fewest, .ref aM_may, .ref aM_then, .ref aM_cases, .ref aM_next, .ref aM_trace, .int M_traced])), (aM_tape, .inl (cI, 300, .inl M_tape))]) ⟨hx, hb, hml, hown, hts⟩ (c_X7_isLetter l dC dI cI cJ cZ cA r107 r110 e111) (va_cwS 1 hts gX7_step_X7_isLetter rfl rfl rfl (by decide +kernel) ⟨Nat.le_of_ble_eq_true rfl, Nat.le_of_ble_eq_true rfl⟩) hK hP hD hS hA [] [0, 1] [0, 1] rfl rfl rfl rfl (by decide) rfl rfl rfl hl.1 rfl (Nat.le_of_ble_eq_true rfl) dX7_step_71 ⟨Nat.zero_le _, Nat.zero_le _⟩ (fun H locs hP hD hS => ?_)
            refine lv_if_eq (tgt := 130) hx hb dX7_step_74 (by decide) (fun c112 => ?_) (fun c112 => ?_)
            · have h := ift c112 h
              refine lv_iload_n hx hb dX7_step_130 rfl (lv_at hl 0 rfl) ?_
              obtain ⟨r113, e114, h⟩ := bd1_s h
              refine kc_si (rest := []) (wr := [(aM, .inr (7, [.int M_thrown, .int M_status, .ref aM_lane, .ref aM_many, .ref aM_item, .int M_posts, .ref aM_beside, .int M_rounds, .ref aM_round, .int M_read, .ref aM_reads, .ref aM_tape, .int M_taped, .int M_latest, .int M_length, .int M_at, .int M_sort, .int M_at, .int M_till, .int M_fault, .int M_faultAt, .ref aM_fewest, .ref aM_may, .ref aM_then, .ref aM_cases, .ref aM_next, .ref aM_trace, .int M_traced])), (aM_tape, .inl (cI, 300, .inl M_tape))]) (wF := [(aM, .inr (7, [.int M_thrown, .int M_status, .ref aM_lane, .ref aM_many, .ref aM_item, .int M_posts, .ref aM_beside, .int M_rounds, .ref aM_round, .int M_read, .ref aM_reads, .ref aM_tape, .int M_taped, .int M_latest, .int M_length, .int M_at, .int M_sort, .int M_at, .int M_till, .int M_fault, .int M_faultAt, .ref aM_fewest, .ref aM_may, .ref aM_then, .ref aM_cases, .ref aM_next, .ref aM_trace, .int M_traced])), (aM_tape, .inl (cI, 300, .inl M_tape))]) ⟨hx, hb, hml, hown, hts⟩ (c_X7_isFigure l dC dI cI cJ cZ cA r107 r113 e114) (va_cwS 1 hts gX7_step_X7_isFigure rfl rfl rfl (by decide +kernel) ⟨Nat.le_of_ble_eq_true rfl, Nat.le_of_ble_eq_true rfl⟩) hK hP hD hS hA [] [0, 1] [0, 1] rfl rfl rfl rfl (by decide) rfl rfl rfl hl.1 rfl (Nat.le_of_ble_eq_true rfl) dX7_step_131 ⟨Nat.zero_le _, Nat.zero_le _⟩ (fun H locs hP hD hS => ?_)
              refine lv_if_eq (tgt := 189) hx hb dX7_step_134 (by decide) (fun c115 => ?_) (fun c115 => ?_)
              · have h := ift c115 h
                refine lv_aload_n hx hb dX7_step_189 rfl (lv_at hl 1 rfl) ?_
                refine lv_dup hx hb dX7_step_190 rfl ?_
                refine ka_get (v := .int M_at) (C := RX7) (T := TX7) (Nf := 28) (ref := "BeepNetModel") hx hb hts hiX7 hown hK hP 0 rfl rfl 15 (by decide) k_0 rfl rfl dX7_step_191 ?_
                refine lv_iconst (v := 1) hx hb dX7_step_194 (by decide) ?_
                refine lv_iadd hx hb dX7_step_195 ?_
                refine ka_put (w1 := [(aM, .inr (7, [.int M_thrown, .int M_status, .ref aM_lane, .ref aM_many, .ref aM_item, .int M_posts, .ref aM_beside, .int M_rounds, .ref aM_round, .int M_read, .ref aM_reads, .ref aM_tape, .int M_taped, .int M_latest, .int M_length, .int (M_at + (1 : Int32)), .int M_sort, .int M_at, .int M_till, .int M_fault, .int M_faultAt, .ref aM_fewest, .ref aM_may, .ref aM_then, .ref aM_cases, .ref aM_next, .ref aM_trace, .int M_traced])), (aM_tape, .inl (cI, 300, .inl M_tape))]) (C := RX7) (T := TX7) (Nf := 28) (ref := "BeepNetModel") hx hb hts hiX7 tyX7 tyX7_ok nmX7 hown hK hP hD hS 0 rfl rfl 15 (by decide) k_0 rfl rfl rfl (Nat.le_of_ble_eq_true rfl) dX7_step_196 rfl (fun H locs hP hD hS => ?_)
                refine lv_aload_n hx hb dX7_step_199 rfl (lv_at hl 1 rfl) ?_
                refine lv_iload_n hx hb dX7_step_200 rfl (lv_at hl 0 rfl) ?_
                refine lv_bipush (v := 59) hx hb dX7_step_201 (by decide) ?_
                refine lv_icmp_ne (tgt := 210) hx hb dX7_step_203 (by decide) (fun c116 => ?_) (fun c116 => ?_)
                · have h := ifn c116 h
                  refine lv_iconst (v := 0) hx hb dX7_step_210 (by decide) ?_
                  exact hC211 (M_at + (1 : Int32)) M_sort M_at M_till 0 _ _ _ h hP hD hS (lv_sub hl [1] rfl)
                · have h := ift c116 h
                  refine lv_iconst (v := 4) hx hb dX7_step_206 (by decide) ?_
                  refine lv_goto (tgt := 211) hx hb dX7_step_207 (by decide) ?_
                  exact hC211 (M_at + (1 : Int32)) M_sort M_at M_till 4 _ _ _ h hP hD hS (lv_sub hl [1] rfl)
              · have h := ifn c115 h
                exact hC137 FU M_at M_sort M_at M_till _ _ _ h hP hD hS (lv_sub hl [1] rfl)
            · have h := ifn c112 h
              exact hC77 FU M_at M_sort M_at M_till _ _ _ h hP hD hS (lv_sub hl [1] rfl)
          · have h := ift c109 h
            refine lv_aload_n hx hb dX7_step_62 rfl (lv_at hl 1 rfl) ?_
            refine lv_iconst (v := 1) hx hb dX7_step_63 (by decide) ?_
            refine ka_put (w1 := [(aM, .inr (7, [.int M_thrown, .int M_status, .ref aM_lane, .ref aM_many, .ref aM_item, .int M_posts, .ref aM_beside, .int M_rounds, .ref aM_round, .int M_read, .ref aM_reads, .ref aM_tape, .int M_taped, .int M_latest, .int M_length, .int M_at, .int 1, .int M_at, .int M_till, .int M_fault, .int M_faultAt, .ref aM_fewest, .ref aM_may, .ref aM_then, .ref aM_cases, .ref aM_next, .ref aM_trace, .int M_traced])), (aM_tape, .inl (cI, 300, .inl M_tape))]) (C := RX7) (T := TX7) (Nf := 28) (ref := "BeepNetModel") hx hb hts hiX7 tyX7 tyX7_ok nmX7 hown hK hP hD hS 0 rfl rfl 16 (by decide) k_2 rfl rfl rfl (Nat.le_of_ble_eq_true rfl) dX7_step_64 rfl (fun H locs hP hD hS => ?_)
            refine lv_goto (tgt := 214) hx hb dX7_step_67 (by decide) ?_
            exact hC214 M_at 1 M_at M_till _ _ _ h hP hD hS (lv_sub hl [1] rfl)
        · have h := ift c106 h
          exact hC26 M_at M_sort M_from M_till _ _ _ h hP hD hS (lv_sub hl [0] rfl)
  unfold fX7_step at h
  exact hC0 FU M_at M_sort M_from M_till _ _ _ h hP hD hS (lv_sub hl [0] rfl)
set_option maxHeartbeats 4000000 in
set_option maxRecDepth 100000 in
theorem c_X7_bad (l : Launch) (dC : Nat → ClassId) (dI : Nat → Nat → Nat) (cI cJ cZ cA : ClassId) (aM aM_lane aM_many aM_item aM_beside aM_round aM_reads aM_tape aM_fewest aM_may aM_then aM_cases aM_next aM_trace : Nat) (M_thrown : Int32) (M_status : Int32) (M_posts : Int32) (M_rounds : Int32) (M_read : Int32) (M_taped : Int32) (M_latest : Int32) (M_length : Int32) (M_at : Int32) (M_sort : Int32) (M_from : Int32) (M_till : Int32) (M_fault : Int32) (M_faultAt : Int32) (M_traced : Int32) (p0 : Int32) (M_fault_z : Int32) (M_faultAt_z : Int32) (h : fX7_bad M_from M_fault M_faultAt p0 = some (M_fault_z, M_faultAt_z)) : Ctv l yX7_bad wsX7_bad rmX7_bad (dC, dI) (tyL cI cJ cZ cA) [(aM, .inr (7, [.int M_thrown, .int M_status, .ref aM_lane, .ref aM_many, .ref aM_item, .int M_posts, .ref aM_beside, .int M_rounds, .ref aM_round, .int M_read, .ref aM_reads, .ref aM_tape, .int M_taped, .int M_latest, .int M_length, .int M_at, .int M_sort, .int M_from, .int M_till, .int M_fault, .int M_faultAt, .ref aM_fewest, .ref aM_may, .ref aM_then, .ref aM_cases, .ref aM_next, .ref aM_trace, .int M_traced]))] [(aM, .inr (7, [.int M_thrown, .int M_status, .ref aM_lane, .ref aM_many, .ref aM_item, .int M_posts, .ref aM_beside, .int M_rounds, .ref aM_round, .int M_read, .ref aM_reads, .ref aM_tape, .int M_taped, .int M_latest, .int M_length, .int M_at, .int M_sort, .int M_from, .int M_till, .int M_fault_z, .int M_faultAt_z, .ref aM_fewest, .ref aM_may, .ref aM_then, .ref aM_cases, .ref aM_next, .ref aM_trace, .int M_traced]))] [.ref aM, .int p0] := by
  refine ct_void (cc := cX7_bad) (maxL := 2) (by decide) rfl (Nat.le_of_ble_eq_true rfl) ?_
  intro p e s m args below meth c A Q ls hx hb hml hown hts hA hK hP hD hS hl hret
  have hl : lv_has ls 2 [(0, .ref aM), (1, .int p0)] := hl
  have k_0 := hts (.fieldLink RX7 150 "BeepNetModel" "fault" "I") (by decide +kernel)
  have k_1 := hts (.fieldLink RX7 135 "BeepNetModel" "from" "I") (by decide +kernel)
  have k_2 := hts (.fieldLink RX7 153 "BeepNetModel" "faultAt" "I") (by decide +kernel)
  have hiX7 : ∀ w ∈ u_ws RX7 TX7 28, w ∈ wsX7_bad := fun w hw => List.mem_cons_of_mem _ (List.mem_append_right _ hw)
  unfold fX7_bad at h
  refine lv_aload_n hx hb dX7_bad_0 rfl (lv_at hl 0 rfl) ?_
  refine ka_get (v := .int M_fault) (C := RX7) (T := TX7) (Nf := 28) (ref := "BeepNetModel") hx hb hts hiX7 hown hK hP 0 rfl rfl 19 (by decide) k_0 rfl rfl dX7_bad_1 ?_
  refine lv_if_ne (tgt := 20) hx hb dX7_bad_4 (by decide) (fun c1 => ?_) (fun c1 => ?_)
  · have h := ifn c1 h
    obtain ⟨rfl, rfl⟩ := sj2 h
    exact hret _ _ _ _ hP hD hS dX7_bad_20
  · have h := ift c1 h
    refine lv_aload_n hx hb dX7_bad_7 rfl (lv_at hl 0 rfl) ?_
    refine lv_iload_n hx hb dX7_bad_8 rfl (lv_at hl 1 rfl) ?_
    refine ka_put (w1 := [(aM, .inr (7, [.int M_thrown, .int M_status, .ref aM_lane, .ref aM_many, .ref aM_item, .int M_posts, .ref aM_beside, .int M_rounds, .ref aM_round, .int M_read, .ref aM_reads, .ref aM_tape, .int M_taped, .int M_latest, .int M_length, .int M_at, .int M_sort, .int M_from, .int M_till, .int p0, .int M_faultAt, .ref aM_fewest, .ref aM_may, .ref aM_then, .ref aM_cases, .ref aM_next, .ref aM_trace, .int M_traced]))]) (C := RX7) (T := TX7) (Nf := 28) (ref := "BeepNetModel") hx hb hts hiX7 tyX7 tyX7_ok nmX7 hown hK hP hD hS 0 rfl rfl 19 (by decide) k_0 rfl rfl rfl (Nat.le_of_ble_eq_true rfl) dX7_bad_9 rfl (fun H locs hP hD hS => ?_)
    refine lv_aload_n hx hb dX7_bad_12 rfl (lv_at hl 0 rfl) ?_
    refine lv_aload_n hx hb dX7_bad_13 rfl (lv_at hl 0 rfl) ?_
    refine ka_get (v := .int M_from) (C := RX7) (T := TX7) (Nf := 28) (ref := "BeepNetModel") hx hb hts hiX7 hown hK hP 0 rfl rfl 17 (by decide) k_1 rfl rfl dX7_bad_14 ?_
    refine ka_put (w1 := [(aM, .inr (7, [.int M_thrown, .int M_status, .ref aM_lane, .ref aM_many, .ref aM_item, .int M_posts, .ref aM_beside, .int M_rounds, .ref aM_round, .int M_read, .ref aM_reads, .ref aM_tape, .int M_taped, .int M_latest, .int M_length, .int M_at, .int M_sort, .int M_from, .int M_till, .int p0, .int M_from, .ref aM_fewest, .ref aM_may, .ref aM_then, .ref aM_cases, .ref aM_next, .ref aM_trace, .int M_traced]))]) (C := RX7) (T := TX7) (Nf := 28) (ref := "BeepNetModel") hx hb hts hiX7 tyX7 tyX7_ok nmX7 hown hK hP hD hS 0 rfl rfl 20 (by decide) k_2 rfl rfl rfl (Nat.le_of_ble_eq_true rfl) dX7_bad_17 rfl (fun H locs hP hD hS => ?_)
    obtain ⟨rfl, rfl⟩ := sj2 h
    exact hret _ _ _ _ hP hD hS dX7_bad_20
set_option maxHeartbeats 4000000 in
set_option maxRecDepth 100000 in
theorem c_X7_need (l : Launch) (dC : Nat → ClassId) (dI : Nat → Nat → Nat) (cI cJ cZ cA : ClassId) (aM aM_lane aM_many aM_item aM_beside aM_round aM_reads aM_tape aM_fewest aM_may aM_then aM_cases aM_next aM_trace : Nat) (M_thrown : Int32) (M_status : Int32) (M_posts : Int32) (M_rounds : Int32) (M_read : Int32) (M_taped : Int32) (M_latest : Int32) (M_length : Int32) (M_at : Int32) (M_sort : Int32) (M_from : Int32) (M_till : Int32) (M_fault : Int32) (M_faultAt : Int32) (M_traced : Int32) (M_tape : Nat → Int32) (p0 : Int32) (M_at_z : Int32) (M_sort_z : Int32) (M_from_z : Int32) (M_till_z : Int32) (M_fault_z : Int32) (M_faultAt_z : Int32) (h : fX7_need M_length M_at M_sort M_from M_till M_fault M_faultAt M_tape p0 = some (M_at_z, M_sort_z, M_from_z, M_till_z, M_fault_z, M_faultAt_z)) : Ctv l yX7_need wsX7_need rmX7_need (dC, dI) (tyL cI cJ cZ cA) [(aM, .inr (7, [.int M_thrown, .int M_status, .ref aM_lane, .ref aM_many, .ref aM_item, .int M_posts, .ref aM_beside, .int M_rounds, .ref aM_round, .int M_read, .ref aM_reads, .ref aM_tape, .int M_taped, .int M_latest, .int M_length, .int M_at, .int M_sort, .int M_from, .int M_till, .int M_fault, .int M_faultAt, .ref aM_fewest, .ref aM_may, .ref aM_then, .ref aM_cases, .ref aM_next, .ref aM_trace, .int M_traced])), (aM_tape, .inl (cI, 300, .inl M_tape))] [(aM, .inr (7, [.int M_thrown, .int M_status, .ref aM_lane, .ref aM_many, .ref aM_item, .int M_posts, .ref aM_beside, .int M_rounds, .ref aM_round, .int M_read, .ref aM_reads, .ref aM_tape, .int M_taped, .int M_latest, .int M_length, .int M_at_z, .int M_sort_z, .int M_from_z, .int M_till_z, .int M_fault_z, .int M_faultAt_z, .ref aM_fewest, .ref aM_may, .ref aM_then, .ref aM_cases, .ref aM_next, .ref aM_trace, .int M_traced])), (aM_tape, .inl (cI, 300, .inl M_tape))] [.ref aM, .int p0] := by
  refine ct_void (cc := cX7_need) (maxL := 2) (by decide) rfl (Nat.le_of_ble_eq_true rfl) ?_
  intro p e s m args below meth c A Q ls hx hb hml hown hts hA hK hP hD hS hl hret
  have hl : lv_has ls 2 [(0, .ref aM), (1, .int p0)] := hl
  have k_0 := hts (.fieldLink RX7 150 "BeepNetModel" "fault" "I") (by decide +kernel)
  have hiX7 : ∀ w ∈ u_ws RX7 TX7 28, w ∈ wsX7_need := fun w hw => List.mem_cons_of_mem _ (List.mem_append_right _ hw)
  have hC9 : ∀ (M_at : Int32) (M_sort : Int32) (M_from : Int32) (M_till : Int32) (M_fault : Int32) (M_faultAt : Int32) (H : Heap) (locs : List Loc) (ls : Array Slot), fX7_need_c9 M_length M_tape M_at M_sort M_from M_till M_fault M_faultAt = some (M_at_z, M_sort_z, M_from_z, M_till_z, M_fault_z, M_faultAt_z) → va_P (dC, dI) vwCl [(aM, .inr (7, [.int M_thrown, .int M_status, .ref aM_lane, .ref aM_many, .ref aM_item, .int M_posts, .ref aM_beside, .int M_rounds, .ref aM_round, .int M_read, .ref aM_reads, .ref aM_tape, .int M_taped, .int M_latest, .int M_length, .int M_at, .int M_sort, .int M_from, .int M_till, .int M_fault, .int M_faultAt, .ref aM_fewest, .ref aM_may, .ref aM_then, .ref aM_cases, .ref aM_next, .ref aM_trace, .int M_traced])), (aM_tape, .inl (cI, 300, .inl M_tape))] H → va_D A [(aM, .inr (7, [.int M_thrown, .int M_status, .ref aM_lane, .ref aM_many, .ref aM_item, .int M_posts, .ref aM_beside, .int M_rounds, .ref aM_round, .int M_read, .ref aM_reads, .ref aM_tape, .int M_taped, .int M_latest, .int M_length, .int M_at, .int M_sort, .int M_from, .int M_till, .int M_fault, .int M_faultAt, .ref aM_fewest, .ref aM_may, .ref aM_then, .ref aM_cases, .ref aM_next, .ref aM_trace, .int M_traced])), (aM_tape, .inl (cI, 300, .inl M_tape))] → va_S A s.heap H locs → lv_has ls 2 [(0, .ref aM)] → W p l e rmX7_need s m args below meth c H locs 0 0 Q (F0 m 9 ls []) := by
    intro M_at M_sort M_from M_till M_fault M_faultAt H locs ls h hP hD hS hl
    unfold fX7_need_c9 at h
    refine lv_aload_n hx hb dX7_need_9 rfl (lv_at hl 0 rfl) ?_
    refine ka_get (v := .int M_fault) (C := RX7) (T := TX7) (Nf := 28) (ref := "BeepNetModel") hx hb hts hiX7 hown hK hP 0 rfl rfl 19 (by decide) k_0 rfl rfl dX7_need_10 ?_
    refine lv_if_ne (tgt := 20) hx hb dX7_need_13 (by decide) (fun c1001 => ?_) (fun c1001 => ?_)
    · have h := ifn c1001 h
      obtain ⟨rfl, rfl, rfl, rfl, rfl, rfl⟩ := sj6 h
      exact hret _ _ _ _ hP hD hS dX7_need_20
    · have h := ift c1001 h
      refine lv_aload_n hx hb dX7_need_16 rfl (lv_at hl 0 rfl) ?_
      obtain ⟨M_at_1002, M_sort_1003, M_from_1004, M_till_1005, e1006, h⟩ := bd4_s h
      refine kc_vv (rest := []) (wr := []) (wF := [(aM, .inr (7, [.int M_thrown, .int M_status, .ref aM_lane, .ref aM_many, .ref aM_item, .int M_posts, .ref aM_beside, .int M_rounds, .ref aM_round, .int M_read, .ref aM_reads, .ref aM_tape, .int M_taped, .int M_latest, .int M_length, .int M_at_1002, .int M_sort_1003, .int M_from_1004, .int M_till_1005, .int M_fault, .int M_faultAt, .ref aM_fewest, .ref aM_may, .ref aM_then, .ref aM_cases, .ref aM_next, .ref aM_trace, .int M_traced])), (aM_tape, .inl (cI, 300, .inl M_tape))]) ⟨hx, hb, hml, hown, hts⟩ (c_X7_step l dC dI cI cJ cZ cA aM aM_lane aM_many aM_item aM_beside aM_round aM_reads aM_tape aM_fewest aM_may aM_then aM_cases aM_next aM_trace M_thrown M_status M_posts M_rounds M_read M_taped M_latest M_length M_at M_sort M_from M_till M_fault M_faultAt M_traced M_tape M_at_1002 M_sort_1003 M_from_1004 M_till_1005 e1006) (cwV 0 hts gX7_need_X7_step rfl rfl rfl (by decide +kernel) ⟨Nat.le_of_ble_eq_true rfl, Nat.le_of_ble_eq_true rfl⟩) hK hP hD hS hA [0, 1] [] [0, 1] 0 rfl rfl rfl rfl (by decide) rfl rfl rfl rfl rfl rfl hl.1 rfl (Nat.le_of_ble_eq_true rfl) dX7_need_17 ⟨Nat.zero_le _, Nat.zero_le _⟩ (fun H locs hP hD hS => ?_)
      obtain ⟨rfl, rfl, rfl, rfl, rfl, rfl⟩ := sj6 h
      exact hret _ _ _ _ hP hD hS dX7_need_20
  unfold fX7_need at h
  refine lv_iload_n hx hb dX7_need_0 rfl (lv_at hl 1 rfl) ?_
  refine lv_if_ne (tgt := 9) hx hb dX7_need_1 (by decide) (fun c1 => ?_) (fun c1 => ?_)
  · have h := ifn c1 h
    exact hC9 M_at M_sort M_from M_till M_fault M_faultAt _ _ _ h hP hD hS (lv_sub hl [0] rfl)
  · have h := ift c1 h
    refine lv_aload_n hx hb dX7_need_4 rfl (lv_at hl 0 rfl) ?_
    refine lv_iconst (v := 1) hx hb dX7_need_5 (by decide) ?_
    obtain ⟨M_fault_2, M_faultAt_3, e4, h⟩ := bd2_s h
    refine kc_vv (rest := []) (wr := [(aM_tape, .inl (cI, 300, .inl M_tape))]) (wF := [(aM, .inr (7, [.int M_thrown, .int M_status, .ref aM_lane, .ref aM_many, .ref aM_item, .int M_posts, .ref aM_beside, .int M_rounds, .ref aM_round, .int M_read, .ref aM_reads, .ref aM_tape, .int M_taped, .int M_latest, .int M_length, .int M_at, .int M_sort, .int M_from, .int M_till, .int M_fault_2, .int M_faultAt_3, .ref aM_fewest, .ref aM_may, .ref aM_then, .ref aM_cases, .ref aM_next, .ref aM_trace, .int M_traced])), (aM_tape, .inl (cI, 300, .inl M_tape))]) ⟨hx, hb, hml, hown, hts⟩ (c_X7_bad l dC dI cI cJ cZ cA aM aM_lane aM_many aM_item aM_beside aM_round aM_reads aM_tape aM_fewest aM_may aM_then aM_cases aM_next aM_trace M_thrown M_status M_posts M_rounds M_read M_taped M_latest M_length M_at M_sort M_from M_till M_fault M_faultAt M_traced 1 M_fault_2 M_faultAt_3 e4) (cwV 1 hts gX7_need_X7_bad rfl rfl rfl (by decide +kernel) ⟨Nat.le_of_ble_eq_true rfl, Nat.le_of_ble_eq_true rfl⟩) hK hP hD hS hA [0] [1] [1, 0] 0 rfl rfl rfl rfl (by decide) rfl rfl rfl rfl rfl rfl hl.1 rfl (Nat.le_of_ble_eq_true rfl) dX7_need_6 ⟨Nat.zero_le _, Nat.zero_le _⟩ (fun H locs hP hD hS => ?_)
    exact hC9 M_at M_sort M_from M_till M_fault_2 M_faultAt_3 _ _ _ h hP hD hS (lv_sub hl [0] rfl)
set_option maxHeartbeats 4000000 in
set_option maxRecDepth 100000 in
theorem c_X7_word (l : Launch) (dC : Nat → ClassId) (dI : Nat → Nat → Nat) (cI cJ cZ cA : ClassId) (aM aM_lane aM_many aM_item aM_beside aM_round aM_reads aM_tape aM_fewest aM_may aM_then aM_cases aM_next aM_trace : Nat) (M_thrown : Int32) (M_status : Int32) (M_posts : Int32) (M_rounds : Int32) (M_read : Int32) (M_taped : Int32) (M_latest : Int32) (M_length : Int32) (M_at : Int32) (M_sort : Int32) (M_from : Int32) (M_till : Int32) (M_fault : Int32) (M_faultAt : Int32) (M_traced : Int32) (M_tape : Nat → Int32) (rr : Int64) (h : fX7_word M_sort M_from M_till M_tape = some rr) : Ctl l yX7_word wsX7_word rmX7_word (dC, dI) (tyL cI cJ cZ cA) [(aM, .inr (7, [.int M_thrown, .int M_status, .ref aM_lane, .ref aM_many, .ref aM_item, .int M_posts, .ref aM_beside, .int M_rounds, .ref aM_round, .int M_read, .ref aM_reads, .ref aM_tape, .int M_taped, .int M_latest, .int M_length, .int M_at, .int M_sort, .int M_from, .int M_till, .int M_fault, .int M_faultAt, .ref aM_fewest, .ref aM_may, .ref aM_then, .ref aM_cases, .ref aM_next, .ref aM_trace, .int M_traced])), (aM_tape, .inl (cI, 300, .inl M_tape))] [(aM, .inr (7, [.int M_thrown, .int M_status, .ref aM_lane, .ref aM_many, .ref aM_item, .int M_posts, .ref aM_beside, .int M_rounds, .ref aM_round, .int M_read, .ref aM_reads, .ref aM_tape, .int M_taped, .int M_latest, .int M_length, .int M_at, .int M_sort, .int M_from, .int M_till, .int M_fault, .int M_faultAt, .ref aM_fewest, .ref aM_may, .ref aM_then, .ref aM_cases, .ref aM_next, .ref aM_trace, .int M_traced])), (aM_tape, .inl (cI, 300, .inl M_tape))] [.ref aM] rr := by
  refine ct_long (cc := cX7_word) (maxL := 4) (by decide) rfl (Nat.le_of_ble_eq_true rfl) ?_
  intro p e s m args below meth c A Q ls hx hb hml hown hts hA hK hP hD hS hl hret
  have hl : lv_has ls 4 [(0, .ref aM)] := hl
  have k_0 := hts (.fieldLink RX7 147 "BeepNetModel" "till" "I") (by decide +kernel)
  have k_1 := hts (.fieldLink RX7 138 "BeepNetModel" "sort" "I") (by decide +kernel)
  have k_2 := hts (.fieldLink RX7 28 "BeepNetModel" "tape" "[I") (by decide +kernel)
  have k_3 := hts (.fieldLink RX7 135 "BeepNetModel" "from" "I") (by decide +kernel)
  have hiX7 : ∀ w ∈ u_ws RX7 TX7 28, w ∈ wsX7_word := fun w hw => List.mem_cons_of_mem _ (List.mem_append_right _ hw)
  have hC7 : ∀ (n : Nat) (x1 : Int64) (x3 : Int32) (H : Heap) (locs : List Loc) (ls : Array Slot), fX7_word_c7 M_sort M_from M_till M_tape n x1 x3 = some rr → va_P (dC, dI) vwCl [(aM, .inr (7, [.int M_thrown, .int M_status, .ref aM_lane, .ref aM_many, .ref aM_item, .int M_posts, .ref aM_beside, .int M_rounds, .ref aM_round, .int M_read, .ref aM_reads, .ref aM_tape, .int M_taped, .int M_latest, .int M_length, .int M_at, .int M_sort, .int M_from, .int M_till, .int M_fault, .int M_faultAt, .ref aM_fewest, .ref aM_may, .ref aM_then, .ref aM_cases, .ref aM_next, .ref aM_trace, .int M_traced])), (aM_tape, .inl (cI, 300, .inl M_tape))] H → va_D A [(aM, .inr (7, [.int M_thrown, .int M_status, .ref aM_lane, .ref aM_many, .ref aM_item, .int M_posts, .ref aM_beside, .int M_rounds, .ref aM_round, .int M_read, .ref aM_reads, .ref aM_tape, .int M_taped, .int M_latest, .int M_length, .int M_at, .int M_sort, .int M_from, .int M_till, .int M_fault, .int M_faultAt, .ref aM_fewest, .ref aM_may, .ref aM_then, .ref aM_cases, .ref aM_next, .ref aM_trace, .int M_traced])), (aM_tape, .inl (cI, 300, .inl M_tape))] → va_S A s.heap H locs → lv_has ls 4 [(0, .ref aM), (1, .long x1), (3, .int x3)] → W p l e rmX7_word s m args below meth c H locs 0 0 Q (F0 m 7 ls []) := by
    intro n
    induction n with
    | zero => intro x1 x3 H locs ls h; rw [fX7_word_c7] at h; cases h
    | succ n7 ih7 =>
      intro x1 x3 H locs ls h hP hD hS hl
      rw [fX7_word_c7] at h
      refine lv_iload_n hx hb dX7_word_7 rfl (lv_at hl 2 rfl) ?_
      refine lv_aload_n hx hb dX7_word_8 rfl (lv_at hl 0 rfl) ?_
      refine ka_get (v := .int M_till) (C := RX7) (T := TX7) (Nf := 28) (ref := "BeepNetModel") hx hb hts hiX7 hown hK hP 0 rfl rfl 18 (by decide) k_0 rfl rfl dX7_word_9 ?_
      refine lv_icmp_ge (tgt := 42) hx hb dX7_word_12 (by decide) (fun c801 => ?_) (fun c801 => ?_)
      · have h := ift c801 h
        refine lv_lload_n hx hb dX7_word_42 rfl (lv_at hl 1 rfl) ?_
        obtain rfl := sj1 h
        exact hret _ _ _ _ _ rfl hP hD hS dX7_word_43
      · have h := ifn c801 h
        refine lv_aload_n hx hb dX7_word_15 rfl (lv_at hl 0 rfl) ?_
        refine ka_get (v := .int M_sort) (C := RX7) (T := TX7) (Nf := 28) (ref := "BeepNetModel") hx hb hts hiX7 hown hK hP 0 rfl rfl 16 (by decide) k_1 rfl rfl dX7_word_16 ?_
        refine lv_iconst (v := 2) hx hb dX7_word_19 (by decide) ?_
        refine lv_icmp_ne (tgt := 42) hx hb dX7_word_20 (by decide) (fun c802 => ?_) (fun c802 => ?_)
        · have h := ifn c802 h
          refine lv_lload_n hx hb dX7_word_42 rfl (lv_at hl 1 rfl) ?_
          obtain rfl := sj1 h
          exact hret _ _ _ _ _ rfl hP hD hS dX7_word_43
        · have h := ift c802 h
          refine lv_lload_n hx hb dX7_word_23 rfl (lv_at hl 1 rfl) ?_
          refine lv_bipush (v := 8) hx hb dX7_word_24 (by decide) ?_
          refine lv_lshl hx hb dX7_word_26 rfl ?_
          refine lv_aload_n hx hb dX7_word_27 rfl (lv_at hl 0 rfl) ?_
          refine ka_get (v := .ref aM_tape) (C := RX7) (T := TX7) (Nf := 28) (ref := "BeepNetModel") hx hb hts hiX7 hown hK hP 0 rfl rfl 11 (by decide) k_2 rfl rfl dX7_word_28 ?_
          refine lv_iload_n hx hb dX7_word_31 rfl (lv_at hl 2 rfl) ?_
          obtain ⟨v803, ev803, hn804, h⟩ := ldx_s h
          refine ka_ild hx hb hK hP 1 0 ev803 rfl rfl hn804 dX7_word_32 ?_
          refine lv_i2l hx hb dX7_word_33 rfl ?_
          refine lv_lor hx hb dX7_word_34 ?_
          obtain ⟨v805, ev805, h⟩ := bnd_s h
          refine kn_l ev805 ?_
          refine lv_lstore_n (lv' := [(1, .long v805), (0, .ref aM), (3, .int x3)]) hx hb dX7_word_35 rfl hl (by decide) rfl (fun ls hl => ?_)
          refine lv_iinc (v := x3 + 1) (lv' := [(3, .int (x3 + 1)), (1, .long v805), (0, .ref aM)]) hx hb dX7_word_36 hl (k := 2) rfl rfl (by decide) rfl (fun ls hl => ?_)
          refine lv_goto (tgt := 7) hx hb dX7_word_39 (by decide) ?_
          exact ih7 v805 (x3 + 1) _ _ _ h hP hD hS (lv_sub hl [2, 1, 0] rfl)
  unfold fX7_word at h
  refine lv_lconst (v := 0) hx hb dX7_word_0 (by decide) ?_
  refine lv_lstore_n (lv' := [(1, .long 0), (0, .ref aM)]) hx hb dX7_word_1 rfl hl (by decide) rfl (fun ls hl => ?_)
  refine lv_aload_n hx hb dX7_word_2 rfl (lv_at hl 1 rfl) ?_
  refine ka_get (v := .int M_from) (C := RX7) (T := TX7) (Nf := 28) (ref := "BeepNetModel") hx hb hts hiX7 hown hK hP 0 rfl rfl 17 (by decide) k_3 rfl rfl dX7_word_3 ?_
  refine lv_istore_n (lv' := [(3, .int M_from), (1, .long 0), (0, .ref aM)]) hx hb dX7_word_6 rfl hl (by decide) rfl (fun ls hl => ?_)
  exact hC7 FU 0 M_from _ _ _ h hP hD hS (lv_sub hl [2, 1, 0] rfl)
set_option maxHeartbeats 4000000 in
set_option maxRecDepth 100000 in
theorem c_X7_readRound (l : Launch) (dC : Nat → ClassId) (dI : Nat → Nat → Nat) (cI cJ cZ cA : ClassId) (aM aM_lane aM_many aM_item aM_beside aM_round aM_reads aM_tape aM_fewest aM_may aM_then aM_cases aM_next aM_trace : Nat) (M_thrown : Int32) (M_status : Int32) (M_posts : Int32) (M_rounds : Int32) (M_read : Int32) (M_taped : Int32) (M_latest : Int32) (M_length : Int32) (M_at : Int32) (M_sort : Int32) (M_from : Int32) (M_till : Int32) (M_fault : Int32) (M_faultAt : Int32) (M_traced : Int32) (M_reads : Nat → Int32) (M_tape : Nat → Int32) (M_read_z : Int32) (M_at_z : Int32) (M_sort_z : Int32) (M_from_z : Int32) (M_till_z : Int32) (M_fault_z : Int32) (M_faultAt_z : Int32) (M_reads_z : Nat → Int32) (h : fX7_readRound M_posts M_read M_length M_at M_sort M_from M_till M_fault M_faultAt M_reads M_tape = some (M_read_z, M_at_z, M_sort_z, M_from_z, M_till_z, M_fault_z, M_faultAt_z, M_reads_z)) : Ctv l yX7_readRound wsX7_readRound rmX7_readRound (dC, dI) (tyL cI cJ cZ cA) [(aM, .inr (7, [.int M_thrown, .int M_status, .ref aM_lane, .ref aM_many, .ref aM_item, .int M_posts, .ref aM_beside, .int M_rounds, .ref aM_round, .int M_read, .ref aM_reads, .ref aM_tape, .int M_taped, .int M_latest, .int M_length, .int M_at, .int M_sort, .int M_from, .int M_till, .int M_fault, .int M_faultAt, .ref aM_fewest, .ref aM_may, .ref aM_then, .ref aM_cases, .ref aM_next, .ref aM_trace, .int M_traced])), (aM_reads, .inl (cI, 20, .inl M_reads)), (aM_tape, .inl (cI, 300, .inl M_tape))] [(aM, .inr (7, [.int M_thrown, .int M_status, .ref aM_lane, .ref aM_many, .ref aM_item, .int M_posts, .ref aM_beside, .int M_rounds, .ref aM_round, .int M_read_z, .ref aM_reads, .ref aM_tape, .int M_taped, .int M_latest, .int M_length, .int M_at_z, .int M_sort_z, .int M_from_z, .int M_till_z, .int M_fault_z, .int M_faultAt_z, .ref aM_fewest, .ref aM_may, .ref aM_then, .ref aM_cases, .ref aM_next, .ref aM_trace, .int M_traced])), (aM_reads, .inl (cI, 20, .inl M_reads_z)), (aM_tape, .inl (cI, 300, .inl M_tape))] [.ref aM] := by
  refine ct_void (cc := cX7_readRound) (maxL := 7) (by decide) rfl (Nat.le_of_ble_eq_true rfl) ?_
  intro p e s m args below meth c A Q ls hx hb hml hown hts hA hK hP hD hS hl hret
  have hl : lv_has ls 7 [(0, .ref aM)] := hl
  have k_0 := hts (.fieldLink RX7 147 "BeepNetModel" "till" "I") (by decide +kernel)
  have k_1 := hts (.fieldLink RX7 76 "BeepNetModel" "posts" "I") (by decide +kernel)
  have k_2 := hts (.fieldLink RX7 28 "BeepNetModel" "tape" "[I") (by decide +kernel)
  have k_3 := hts (.fieldLink RX7 150 "BeepNetModel" "fault" "I") (by decide +kernel)
  have k_4 := hts (.fieldLink RX7 25 "BeepNetModel" "reads" "[I") (by decide +kernel)
  have k_5 := hts (.fieldLink RX7 173 "BeepNetModel" "read" "I") (by decide +kernel)
  have k_6 := hts (.fieldLink RX7 138 "BeepNetModel" "sort" "I") (by decide +kernel)
  have k_7 := hts (.constantLong RX7 167 (491496238692)) (by decide +kernel)
  have k_8 := hts (.fieldLink RX7 135 "BeepNetModel" "from" "I") (by decide +kernel)
  have k_9 := hts (.constantLong RX7 169 (6384748)) (by decide +kernel)
  have k_10 := hts (.constantLong RX7 171 (500219601765)) (by decide +kernel)
  have hiX7 : ∀ w ∈ u_ws RX7 TX7 28, w ∈ wsX7_readRound := fun w hw => List.mem_cons_of_mem _ (List.mem_append_right _ hw)
  have hC255 : ∀ (M_read : Int32) (M_at : Int32) (M_sort : Int32) (M_from : Int32) (M_till : Int32) (M_fault : Int32) (M_faultAt : Int32) (M_reads : Nat → Int32) (x4 : Int32) (H : Heap) (locs : List Loc) (ls : Array Slot), fX7_readRound_c255 M_posts M_length M_tape M_read M_at M_sort M_from M_till M_fault M_faultAt M_reads x4 = some (M_read_z, M_at_z, M_sort_z, M_from_z, M_till_z, M_fault_z, M_faultAt_z, M_reads_z) → va_P (dC, dI) vwCl [(aM, .inr (7, [.int M_thrown, .int M_status, .ref aM_lane, .ref aM_many, .ref aM_item, .int M_posts, .ref aM_beside, .int M_rounds, .ref aM_round, .int M_read, .ref aM_reads, .ref aM_tape, .int M_taped, .int M_latest, .int M_length, .int M_at, .int M_sort, .int M_from, .int M_till, .int M_fault, .int M_faultAt, .ref aM_fewest, .ref aM_may, .ref aM_then, .ref aM_cases, .ref aM_next, .ref aM_trace, .int M_traced])), (aM_reads, .inl (cI, 20, .inl M_reads)), (aM_tape, .inl (cI, 300, .inl M_tape))] H → va_D A [(aM, .inr (7, [.int M_thrown, .int M_status, .ref aM_lane, .ref aM_many, .ref aM_item, .int M_posts, .ref aM_beside, .int M_rounds, .ref aM_round, .int M_read, .ref aM_reads, .ref aM_tape, .int M_taped, .int M_latest, .int M_length, .int M_at, .int M_sort, .int M_from, .int M_till, .int M_fault, .int M_faultAt, .ref aM_fewest, .ref aM_may, .ref aM_then, .ref aM_cases, .ref aM_next, .ref aM_trace, .int M_traced])), (aM_reads, .inl (cI, 20, .inl M_reads)), (aM_tape, .inl (cI, 300, .inl M_tape))] → va_S A s.heap H locs → lv_has ls 7 [(0, .ref aM), (4, .int x4)] → W p l e rmX7_readRound s m args below meth c H locs 0 0 Q (F0 m 255 ls []) := by
    intro M_read M_at M_sort M_from M_till M_fault M_faultAt M_reads x4 H locs ls h hP hD hS hl
    unfold fX7_readRound_c255 at h
    refine lv_aload_n hx hb dX7_readRound_255 rfl (lv_at hl 0 rfl) ?_
    refine ka_get (v := .int M_fault) (C := RX7) (T := TX7) (Nf := 28) (ref := "BeepNetModel") hx hb hts hiX7 hown hK hP 0 rfl rfl 19 (by decide) k_3 rfl rfl dX7_readRound_256 ?_
    refine lv_if_ne (tgt := 283) hx hb dX7_readRound_259 (by decide) (fun c25601 => ?_) (fun c25601 => ?_)
    · have h := ifn c25601 h
      obtain ⟨rfl, rfl, rfl, rfl, rfl, rfl, rfl, rfl⟩ := sj8 h
      exact hret _ _ _ _ hP hD hS dX7_readRound_283
    · have h := ift c25601 h
      refine lv_aload_n hx hb dX7_readRound_262 rfl (lv_at hl 0 rfl) ?_
      refine ka_get (v := .ref aM_reads) (C := RX7) (T := TX7) (Nf := 28) (ref := "BeepNetModel") hx hb hts hiX7 hown hK hP 0 rfl rfl 10 (by decide) k_4 rfl rfl dX7_readRound_263 ?_
      refine lv_aload_n hx hb dX7_readRound_266 rfl (lv_at hl 0 rfl) ?_
      refine ka_get (v := .int M_read) (C := RX7) (T := TX7) (Nf := 28) (ref := "BeepNetModel") hx hb hts hiX7 hown hK hP 0 rfl rfl 9 (by decide) k_5 rfl rfl dX7_readRound_267 ?_
      refine lv_iload hx hb dX7_readRound_270 (lv_at hl 1 rfl) ?_
      obtain ⟨g25602, eg25602, hn25603, h⟩ := sti_s h
      refine ka_ist (w1 := [(aM, .inr (7, [.int M_thrown, .int M_status, .ref aM_lane, .ref aM_many, .ref aM_item, .int M_posts, .ref aM_beside, .int M_rounds, .ref aM_round, .int M_read, .ref aM_reads, .ref aM_tape, .int M_taped, .int M_latest, .int M_length, .int M_at, .int M_sort, .int M_from, .int M_till, .int M_fault, .int M_faultAt, .ref aM_fewest, .ref aM_may, .ref aM_then, .ref aM_cases, .ref aM_next, .ref aM_trace, .int M_traced])), (aM_reads, .inl (cI, 20, .inl g25602)), (aM_tape, .inl (cI, 300, .inl M_tape))]) hx hb hK hP hD hS 1 0 eg25602 rfl rfl hn25603 dX7_readRound_272 rfl (fun H locs hP hD hS => ?_)
      refine lv_aload_n hx hb dX7_readRound_273 rfl (lv_at hl 0 rfl) ?_
      refine lv_dup hx hb dX7_readRound_274 rfl ?_
      refine ka_get (v := .int M_read) (C := RX7) (T := TX7) (Nf := 28) (ref := "BeepNetModel") hx hb hts hiX7 hown hK hP 0 rfl rfl 9 (by decide) k_5 rfl rfl dX7_readRound_275 ?_
      refine lv_iconst (v := 1) hx hb dX7_readRound_278 (by decide) ?_
      refine lv_iadd hx hb dX7_readRound_279 ?_
      refine ka_put (w1 := [(aM, .inr (7, [.int M_thrown, .int M_status, .ref aM_lane, .ref aM_many, .ref aM_item, .int M_posts, .ref aM_beside, .int M_rounds, .ref aM_round, .int (M_read + (1 : Int32)), .ref aM_reads, .ref aM_tape, .int M_taped, .int M_latest, .int M_length, .int M_at, .int M_sort, .int M_from, .int M_till, .int M_fault, .int M_faultAt, .ref aM_fewest, .ref aM_may, .ref aM_then, .ref aM_cases, .ref aM_next, .ref aM_trace, .int M_traced])), (aM_reads, .inl (cI, 20, .inl g25602)), (aM_tape, .inl (cI, 300, .inl M_tape))]) (C := RX7) (T := TX7) (Nf := 28) (ref := "BeepNetModel") hx hb hts hiX7 tyX7 tyX7_ok nmX7 hown hK hP hD hS 0 rfl rfl 9 (by decide) k_5 rfl rfl rfl (Nat.le_of_ble_eq_true rfl) dX7_readRound_280 rfl (fun H locs hP hD hS => ?_)
      obtain ⟨rfl, rfl, rfl, rfl, rfl, rfl, rfl, rfl⟩ := sj8 h
      exact hret _ _ _ _ hP hD hS dX7_readRound_283
  have hC252 : ∀ (M_read : Int32) (M_at : Int32) (M_sort : Int32) (M_from : Int32) (M_till : Int32) (M_fault : Int32) (M_faultAt : Int32) (M_reads : Nat → Int32) (x4 : Int32) (t1 : Int32) (H : Heap) (locs : List Loc) (ls : Array Slot), fX7_readRound_c252 M_posts M_length M_tape M_read M_at M_sort M_from M_till M_fault M_faultAt M_reads x4 t1 = some (M_read_z, M_at_z, M_sort_z, M_from_z, M_till_z, M_fault_z, M_faultAt_z, M_reads_z) → va_P (dC, dI) vwCl [(aM, .inr (7, [.int M_thrown, .int M_status, .ref aM_lane, .ref aM_many, .ref aM_item, .int M_posts, .ref aM_beside, .int M_rounds, .ref aM_round, .int M_read, .ref aM_reads, .ref aM_tape, .int M_taped, .int M_latest, .int M_length, .int M_at, .int M_sort, .int M_from, .int M_till, .int M_fault, .int M_faultAt, .ref aM_fewest, .ref aM_may, .ref aM_then, .ref aM_cases, .ref aM_next, .ref aM_trace, .int M_traced])), (aM_reads, .inl (cI, 20, .inl M_reads)), (aM_tape, .inl (cI, 300, .inl M_tape))] H → va_D A [(aM, .inr (7, [.int M_thrown, .int M_status, .ref aM_lane, .ref aM_many, .ref aM_item, .int M_posts, .ref aM_beside, .int M_rounds, .ref aM_round, .int M_read, .ref aM_reads, .ref aM_tape, .int M_taped, .int M_latest, .int M_length, .int M_at, .int M_sort, .int M_from, .int M_till, .int M_fault, .int M_faultAt, .ref aM_fewest, .ref aM_may, .ref aM_then, .ref aM_cases, .ref aM_next, .ref aM_trace, .int M_traced])), (aM_reads, .inl (cI, 20, .inl M_reads)), (aM_tape, .inl (cI, 300, .inl M_tape))] → va_S A s.heap H locs → lv_has ls 7 [(0, .ref aM), (4, .int x4)] → W p l e rmX7_readRound s m args below meth c H locs 0 0 Q (F0 m 252 ls [.int t1, .ref aM]) := by
    intro M_read M_at M_sort M_from M_till M_fault M_faultAt M_reads x4 t1 H locs ls h hP hD hS hl
    unfold fX7_readRound_c252 at h
    obtain ⟨M_at_25301, M_sort_25302, M_from_25303, M_till_25304, M_fault_25305, M_faultAt_25306, e25307, h⟩ := bd6_s h
    refine kc_vv (rest := []) (wr := [(aM_reads, .inl (cI, 20, .inl M_reads))]) (wF := [(aM, .inr (7, [.int M_thrown, .int M_status, .ref aM_lane, .ref aM_many, .ref aM_item, .int M_posts, .ref aM_beside, .int M_rounds, .ref aM_round, .int M_read, .ref aM_reads, .ref aM_tape, .int M_taped, .int M_latest, .int M_length, .int M_at_25301, .int M_sort_25302, .int M_from_25303, .int M_till_25304, .int M_fault_25305, .int M_faultAt_25306, .ref aM_fewest, .ref aM_may, .ref aM_then, .ref aM_cases, .ref aM_next, .ref aM_trace, .int M_traced])), (aM_reads, .inl (cI, 20, .inl M_reads)), (aM_tape, .inl (cI, 300, .inl M_tape))]) ⟨hx, hb, hml, hown, hts⟩ (c_X7_need l dC dI cI cJ cZ cA aM aM_lane aM_many aM_item aM_beside aM_round aM_reads aM_tape aM_fewest aM_may aM_then aM_cases aM_next aM_trace M_thrown M_status M_posts M_rounds M_read M_taped M_latest M_length M_at M_sort M_from M_till M_fault M_faultAt M_traced M_tape t1 M_at_25301 M_sort_25302 M_from_25303 M_till_25304 M_fault_25305 M_faultAt_25306 e25307) (cwV 1 hts gX7_readRound_X7_need rfl rfl rfl (by decide +kernel) ⟨Nat.le_of_ble_eq_true rfl, Nat.le_of_ble_eq_true rfl⟩) hK hP hD hS hA [0, 2] [1] [1, 0, 2] 0 rfl rfl rfl rfl (by decide) rfl rfl rfl rfl rfl rfl hl.1 rfl (Nat.le_of_ble_eq_true rfl) dX7_readRound_252 ⟨Nat.zero_le _, Nat.zero_le _⟩ (fun H locs hP hD hS => ?_)
    exact hC255 M_read M_at_25301 M_sort_25302 M_from_25303 M_till_25304 M_fault_25305 M_faultAt_25306 M_reads x4 _ _ _ h hP hD hS (lv_sub hl [0, 1] rfl)
  have hC231 : ∀ (M_read : Int32) (M_at : Int32) (M_sort : Int32) (M_from : Int32) (M_till : Int32) (M_fault : Int32) (M_faultAt : Int32) (M_reads : Nat → Int32) (x4 : Int32) (H : Heap) (locs : List Loc) (ls : Array Slot), fX7_readRound_c231 M_posts M_length M_tape M_read M_at M_sort M_from M_till M_fault M_faultAt M_reads x4 = some (M_read_z, M_at_z, M_sort_z, M_from_z, M_till_z, M_fault_z, M_faultAt_z, M_reads_z) → va_P (dC, dI) vwCl [(aM, .inr (7, [.int M_thrown, .int M_status, .ref aM_lane, .ref aM_many, .ref aM_item, .int M_posts, .ref aM_beside, .int M_rounds, .ref aM_round, .int M_read, .ref aM_reads, .ref aM_tape, .int M_taped, .int M_latest, .int M_length, .int M_at, .int M_sort, .int M_from, .int M_till, .int M_fault, .int M_faultAt, .ref aM_fewest, .ref aM_may, .ref aM_then, .ref aM_cases, .ref aM_next, .ref aM_trace, .int M_traced])), (aM_reads, .inl (cI, 20, .inl M_reads)), (aM_tape, .inl (cI, 300, .inl M_tape))] H → va_D A [(aM, .inr (7, [.int M_thrown, .int M_status, .ref aM_lane, .ref aM_many, .ref aM_item, .int M_posts, .ref aM_beside, .int M_rounds, .ref aM_round, .int M_read, .ref aM_reads, .ref aM_tape, .int M_taped, .int M_latest, .int M_length, .int M_at, .int M_sort, .int M_from, .int M_till, .int M_fault, .int M_faultAt, .ref aM_fewest, .ref aM_may, .ref aM_then, .ref aM_cases, .ref aM_next, .ref aM_trace, .int M_traced])), (aM_reads, .inl (cI, 20, .inl M_reads)), (aM_tape, .inl (cI, 300, .inl M_tape))] → va_S A s.heap H locs → lv_has ls 7 [(0, .ref aM), (4, .int x4)] → W p l e rmX7_readRound s m args below meth c H locs 0 0 Q (F0 m 231 ls []) := by
    intro M_read M_at M_sort M_from M_till M_fault M_faultAt M_reads x4 H locs ls h hP hD hS hl
    unfold fX7_readRound_c231 at h
    refine lv_aload_n hx hb dX7_readRound_231 rfl (lv_at hl 0 rfl) ?_
    refine ka_get (v := .int M_fault) (C := RX7) (T := TX7) (Nf := 28) (ref := "BeepNetModel") hx hb hts hiX7 hown hK hP 0 rfl rfl 19 (by decide) k_3 rfl rfl dX7_readRound_232 ?_
    refine lv_if_ne (tgt := 255) hx hb dX7_readRound_235 (by decide) (fun c23201 => ?_) (fun c23201 => ?_)
    · have h := ifn c23201 h
      exact hC255 M_read M_at M_sort M_from M_till M_fault M_faultAt M_reads x4 _ _ _ h hP hD hS (lv_sub hl [0, 1] rfl)
    · have h := ift c23201 h
      refine lv_aload_n hx hb dX7_readRound_238 rfl (lv_at hl 0 rfl) ?_
      refine lv_aload_n hx hb dX7_readRound_239 rfl (lv_at hl 0 rfl) ?_
      refine ka_get (v := .int M_sort) (C := RX7) (T := TX7) (Nf := 28) (ref := "BeepNetModel") hx hb hts hiX7 hown hK hP 0 rfl rfl 16 (by decide) k_6 rfl rfl dX7_readRound_240 ?_
      refine lv_iconst (v := 4) hx hb dX7_readRound_243 (by decide) ?_
      refine lv_icmp_ne (tgt := 251) hx hb dX7_readRound_244 (by decide) (fun c23202 => ?_) (fun c23202 => ?_)
      · have h := ifn c23202 h
        refine lv_iconst (v := 0) hx hb dX7_readRound_251 (by decide) ?_
        exact hC252 M_read M_at M_sort M_from M_till M_fault M_faultAt M_reads x4 0 _ _ _ h hP hD hS (lv_sub hl [0, 1] rfl)
      · have h := ift c23202 h
        refine lv_iconst (v := 1) hx hb dX7_readRound_247 (by decide) ?_
        refine lv_goto (tgt := 252) hx hb dX7_readRound_248 (by decide) ?_
        exact hC252 M_read M_at M_sort M_from M_till M_fault M_faultAt M_reads x4 1 _ _ _ h hP hD hS (lv_sub hl [0, 1] rfl)
  have hC122 : ∀ (n : Nat) (M_read : Int32) (M_at : Int32) (M_sort : Int32) (M_from : Int32) (M_till : Int32) (M_fault : Int32) (M_faultAt : Int32) (M_reads : Nat → Int32) (x1 : Int64) (x4 : Int32) (H : Heap) (locs : List Loc) (ls : Array Slot), fX7_readRound_c122 M_posts M_length M_tape n M_read M_at M_sort M_from M_till M_fault M_faultAt M_reads x1 x4 = some (M_read_z, M_at_z, M_sort_z, M_from_z, M_till_z, M_fault_z, M_faultAt_z, M_reads_z) → va_P (dC, dI) vwCl [(aM, .inr (7, [.int M_thrown, .int M_status, .ref aM_lane, .ref aM_many, .ref aM_item, .int M_posts, .ref aM_beside, .int M_rounds, .ref aM_round, .int M_read, .ref aM_reads, .ref aM_tape, .int M_taped, .int M_latest, .int M_length, .int M_at, .int M_sort, .int M_from, .int M_till, .int M_fault, .int M_faultAt, .ref aM_fewest, .ref aM_may, .ref aM_then, .ref aM_cases, .ref aM_next, .ref aM_trace, .int M_traced])), (aM_reads, .inl (cI, 20, .inl M_reads)), (aM_tape, .inl (cI, 300, .inl M_tape))] H → va_D A [(aM, .inr (7, [.int M_thrown, .int M_status, .ref aM_lane, .ref aM_many, .ref aM_item, .int M_posts, .ref aM_beside, .int M_rounds, .ref aM_round, .int M_read, .ref aM_reads, .ref aM_tape, .int M_taped, .int M_latest, .int M_length, .int M_at, .int M_sort, .int M_from, .int M_till, .int M_fault, .int M_faultAt, .ref aM_fewest, .ref aM_may, .ref aM_then, .ref aM_cases, .ref aM_next, .ref aM_trace, .int M_traced])), (aM_reads, .inl (cI, 20, .inl M_reads)), (aM_tape, .inl (cI, 300, .inl M_tape))] → va_S A s.heap H locs → lv_has ls 7 [(0, .ref aM), (1, .long x1), (4, .int x4)] → W p l e rmX7_readRound s m args below meth c H locs 0 0 Q (F0 m 122 ls []) := by
    intro n
    induction n with
    | zero => intro M_read M_at M_sort M_from M_till M_fault M_faultAt M_reads x1 x4 H locs ls h; rw [fX7_readRound_c122] at h; cases h
    | succ n122 ih122 =>
      have hC207 : ∀ (M_read : Int32) (M_at : Int32) (M_sort : Int32) (M_from : Int32) (M_till : Int32) (M_fault : Int32) (M_faultAt : Int32) (M_reads : Nat → Int32) (x1 : Int64) (x4 : Int32) (H : Heap) (locs : List Loc) (ls : Array Slot), fX7_readRound_c207 M_posts M_length M_tape (fX7_readRound_c122 M_posts M_length M_tape n122) M_read M_at M_sort M_from M_till M_fault M_faultAt M_reads x1 x4 = some (M_read_z, M_at_z, M_sort_z, M_from_z, M_till_z, M_fault_z, M_faultAt_z, M_reads_z) → va_P (dC, dI) vwCl [(aM, .inr (7, [.int M_thrown, .int M_status, .ref aM_lane, .ref aM_many, .ref aM_item, .int M_posts, .ref aM_beside, .int M_rounds, .ref aM_round, .int M_read, .ref aM_reads, .ref aM_tape, .int M_taped, .int M_latest, .int M_length, .int M_at, .int M_sort, .int M_from, .int M_till, .int M_fault, .int M_faultAt, .ref aM_fewest, .ref aM_may, .ref aM_then, .ref aM_cases, .ref aM_next, .ref aM_trace, .int M_traced])), (aM_reads, .inl (cI, 20, .inl M_reads)), (aM_tape, .inl (cI, 300, .inl M_tape))] H → va_D A [(aM, .inr (7, [.int M_thrown, .int M_status, .ref aM_lane, .ref aM_many, .ref aM_item, .int M_posts, .ref aM_beside, .int M_rounds, .ref aM_round, .int M_read, .ref aM_reads, .ref aM_tape, .int M_taped, .int M_latest, .int M_length, .int M_at, .int M_sort, .int M_from, .int M_till, .int M_fault, .int M_faultAt, .ref aM_fewest, .ref aM_may, .ref aM_then, .ref aM_cases, .ref aM_next, .ref aM_trace, .int M_traced])), (aM_reads, .inl (cI, 20, .inl M_reads)), (aM_tape, .inl (cI, 300, .inl M_tape))] → va_S A s.heap H locs → lv_has ls 7 [(0, .ref aM), (1, .long x1), (4, .int x4)] → W p l e rmX7_readRound s m args below meth c H locs 0 0 Q (F0 m 207 ls []) := by
        intro M_read M_at M_sort M_from M_till M_fault M_faultAt M_reads x1 x4 H locs ls h hP hD hS hl
        unfold fX7_readRound_c207 at h
        refine lv_aload_n hx hb dX7_readRound_207 rfl (lv_at hl 0 rfl) ?_
        refine lv_iconst (v := 2) hx hb dX7_readRound_208 (by decide) ?_
        obtain ⟨M_fault_20801, M_faultAt_20802, e20803, h⟩ := bd2_s h
        refine kc_vv (rest := []) (wr := [(aM_reads, .inl (cI, 20, .inl M_reads)), (aM_tape, .inl (cI, 300, .inl M_tape))]) (wF := [(aM, .inr (7, [.int M_thrown, .int M_status, .ref aM_lane, .ref aM_many, .ref aM_item, .int M_posts, .ref aM_beside, .int M_rounds, .ref aM_round, .int M_read, .ref aM_reads, .ref aM_tape, .int M_taped, .int M_latest, .int M_length, .int M_at, .int M_sort, .int M_from, .int M_till, .int M_fault_20801, .int M_faultAt_20802, .ref aM_fewest, .ref aM_may, .ref aM_then, .ref aM_cases, .ref aM_next, .ref aM_trace, .int M_traced])), (aM_reads, .inl (cI, 20, .inl M_reads)), (aM_tape, .inl (cI, 300, .inl M_tape))]) ⟨hx, hb, hml, hown, hts⟩ (c_X7_bad l dC dI cI cJ cZ cA aM aM_lane aM_many aM_item aM_beside aM_round aM_reads aM_tape aM_fewest aM_may aM_then aM_cases aM_next aM_trace M_thrown M_status M_posts M_rounds M_read M_taped M_latest M_length M_at M_sort M_from M_till M_fault M_faultAt M_traced 2 M_fault_20801 M_faultAt_20802 e20803) (cwV 1 hts gX7_readRound_X7_bad rfl rfl rfl (by decide +kernel) ⟨Nat.le_of_ble_eq_true rfl, Nat.le_of_ble_eq_true rfl⟩) hK hP hD hS hA [0] [1, 2] [2, 0, 1] 0 rfl rfl rfl rfl (by decide) rfl rfl rfl rfl rfl rfl hl.1 rfl (Nat.le_of_ble_eq_true rfl) dX7_readRound_209 ⟨Nat.zero_le _, Nat.zero_le _⟩ (fun H locs hP hD hS => ?_)
        refine lv_goto (tgt := 228) hx hb dX7_readRound_212 (by decide) ?_
        refine lv_goto (tgt := 122) hx hb dX7_readRound_228 (by decide) ?_
        exact ih122 M_read M_at M_sort M_from M_till M_fault_20801 M_faultAt_20802 M_reads x1 x4 _ _ _ h hP hD hS (lv_sub hl [0, 1, 2] rfl)
      have hC154 : ∀ (n : Nat) (M_read : Int32) (M_at : Int32) (M_sort : Int32) (M_from : Int32) (M_till : Int32) (M_fault : Int32) (M_faultAt : Int32) (M_reads : Nat → Int32) (x1 : Int64) (x4 : Int32) (x5 : Int32) (x6 : Int32) (H : Heap) (locs : List Loc) (ls : Array Slot), fX7_readRound_c154 M_posts M_length M_tape (fX7_readRound_c122 M_posts M_length M_tape n122) n M_read M_at M_sort M_from M_till M_fault M_faultAt M_reads x1 x4 x5 x6 = some (M_read_z, M_at_z, M_sort_z, M_from_z, M_till_z, M_fault_z, M_faultAt_z, M_reads_z) → va_P (dC, dI) vwCl [(aM, .inr (7, [.int M_thrown, .int M_status, .ref aM_lane, .ref aM_many, .ref aM_item, .int M_posts, .ref aM_beside, .int M_rounds, .ref aM_round, .int M_read, .ref aM_reads, .ref aM_tape, .int M_taped, .int M_latest, .int M_length, .int M_at, .int M_sort, .int M_from, .int M_till, .int M_fault, .int M_faultAt, .ref aM_fewest, .ref aM_may, .ref aM_then, .ref aM_cases, .ref aM_next, .ref aM_trace, .int M_traced])), (aM_reads, .inl (cI, 20, .inl M_reads)), (aM_tape, .inl (cI, 300, .inl M_tape))] H → va_D A [(aM, .inr (7, [.int M_thrown, .int M_status, .ref aM_lane, .ref aM_many, .ref aM_item, .int M_posts, .ref aM_beside, .int M_rounds, .ref aM_round, .int M_read, .ref aM_reads, .ref aM_tape, .int M_taped, .int M_latest, .int M_length, .int M_at, .int M_sort, .int M_from, .int M_till, .int M_fault, .int M_faultAt, .ref aM_fewest, .ref aM_may, .ref aM_then, .ref aM_cases, .ref aM_next, .ref aM_trace, .int M_traced])), (aM_reads, .inl (cI, 20, .inl M_reads)), (aM_tape, .inl (cI, 300, .inl M_tape))] → va_S A s.heap H locs → lv_has ls 7 [(0, .ref aM), (1, .long x1), (4, .int x4), (5, .int x5), (6, .int x6)] → W p l e rmX7_readRound s m args below meth c H locs 0 0 Q (F0 m 154 ls []) := by
        intro n
        induction n with
        | zero => intro M_read M_at M_sort M_from M_till M_fault M_faultAt M_reads x1 x4 x5 x6 H locs ls h; rw [fX7_readRound_c154] at h; cases h
        | succ n154 ih154 =>
          intro M_read M_at M_sort M_from M_till M_fault M_faultAt M_reads x1 x4 x5 x6 H locs ls h hP hD hS hl
          rw [fX7_readRound_c154] at h
          refine lv_iload hx hb dX7_readRound_154 (lv_at hl 4 rfl) ?_
          refine lv_aload_n hx hb dX7_readRound_156 rfl (lv_at hl 0 rfl) ?_
          refine ka_get (v := .int M_till) (C := RX7) (T := TX7) (Nf := 28) (ref := "BeepNetModel") hx hb hts hiX7 hown hK hP 0 rfl rfl 18 (by decide) k_0 rfl rfl dX7_readRound_157 ?_
          refine lv_icmp_ge (tgt := 187) hx hb dX7_readRound_160 (by decide) (fun c15501 => ?_) (fun c15501 => ?_)
          · have h := ift c15501 h
            refine lv_iload hx hb dX7_readRound_187 (lv_at hl 3 rfl) ?_
            refine lv_aload_n hx hb dX7_readRound_189 rfl (lv_at hl 0 rfl) ?_
            refine ka_get (v := .int M_posts) (C := RX7) (T := TX7) (Nf := 28) (ref := "BeepNetModel") hx hb hts hiX7 hown hK hP 0 rfl rfl 5 (by decide) k_1 rfl rfl dX7_readRound_190 ?_
            refine lv_icmp_ge (tgt := 207) hx hb dX7_readRound_193 (by decide) (fun c15502 => ?_) (fun c15502 => ?_)
            · have h := ift c15502 h
              exact hC207 M_read M_at M_sort M_from M_till M_fault M_faultAt M_reads x1 x4 _ _ _ h hP hD hS (lv_sub hl [0, 1, 2] rfl)
            · have h := ifn c15502 h
              refine lv_iload hx hb dX7_readRound_196 (lv_at hl 2 rfl) ?_
              refine lv_iload hx hb dX7_readRound_198 (lv_at hl 3 rfl) ?_
              refine lv_ishr hx hb dX7_readRound_200 ?_
              refine lv_iconst (v := 1) hx hb dX7_readRound_201 (by decide) ?_
              refine lv_iand hx hb dX7_readRound_202 ?_
              refine lv_iconst (v := 1) hx hb dX7_readRound_203 (by decide) ?_
              refine lv_icmp_ne (tgt := 215) hx hb dX7_readRound_204 (by decide) (fun c15503 => ?_) (fun c15503 => ?_)
              · have h := ifn c15503 h
                refine lv_iload hx hb dX7_readRound_215 (lv_at hl 2 rfl) ?_
                refine lv_iconst (v := 1) hx hb dX7_readRound_217 (by decide) ?_
                refine lv_iload hx hb dX7_readRound_218 (lv_at hl 3 rfl) ?_
                refine lv_ishl hx hb dX7_readRound_220 ?_
                refine lv_ior hx hb dX7_readRound_221 ?_
                obtain ⟨v15504, ev15504, h⟩ := bnd_s h
                refine kn_i ev15504 ?_
                refine lv_istore (lv' := [(4, .int v15504), (0, .ref aM), (1, .long x1), (5, .int x5), (6, .int x6)]) hx hb dX7_readRound_222 hl (by decide) rfl (fun ls hl => ?_)
                refine lv_aload_n hx hb dX7_readRound_224 rfl (lv_at hl 1 rfl) ?_
                obtain ⟨M_at_15505, M_sort_15506, M_from_15507, M_till_15508, e15509, h⟩ := bd4_s h
                refine kc_vv (rest := []) (wr := [(aM_reads, .inl (cI, 20, .inl M_reads))]) (wF := [(aM, .inr (7, [.int M_thrown, .int M_status, .ref aM_lane, .ref aM_many, .ref aM_item, .int M_posts, .ref aM_beside, .int M_rounds, .ref aM_round, .int M_read, .ref aM_reads, .ref aM_tape, .int M_taped, .int M_latest, .int M_length, .int M_at_15505, .int M_sort_15506, .int M_from_15507, .int M_till_15508, .int M_fault, .int M_faultAt, .ref aM_fewest, .ref aM_may, .ref aM_then, .ref aM_cases, .ref aM_next, .ref aM_trace, .int M_traced])), (aM_reads, .inl (cI, 20, .inl M_reads)), (aM_tape, .inl (cI, 300, .inl M_tape))]) ⟨hx, hb, hml, hown, hts⟩ (c_X7_step l dC dI cI cJ cZ cA aM aM_lane aM_many aM_item aM_beside aM_round aM_reads aM_tape aM_fewest aM_may aM_then aM_cases aM_next aM_trace M_thrown M_status M_posts M_rounds M_read M_taped M_latest M_length M_at M_sort M_from M_till M_fault M_faultAt M_traced M_tape M_at_15505 M_sort_15506 M_from_15507 M_till_15508 e15509) (cwV 0 hts gX7_readRound_X7_step rfl rfl rfl (by decide +kernel) ⟨Nat.le_of_ble_eq_true rfl, Nat.le_of_ble_eq_true rfl⟩) hK hP hD hS hA [0, 2] [1] [1, 0, 2] 0 rfl rfl rfl rfl (by decide) rfl rfl rfl rfl rfl rfl hl.1 rfl (Nat.le_of_ble_eq_true rfl) dX7_readRound_225 ⟨Nat.zero_le _, Nat.zero_le _⟩ (fun H locs hP hD hS => ?_)
                refine lv_goto (tgt := 122) hx hb dX7_readRound_228 (by decide) ?_
                exact ih122 M_read M_at_15505 M_sort_15506 M_from_15507 M_till_15508 M_fault M_faultAt M_reads x1 v15504 _ _ _ h hP hD hS (lv_sub hl [1, 2, 0] rfl)
              · have h := ift c15503 h
                exact hC207 M_read M_at M_sort M_from M_till M_fault M_faultAt M_reads x1 x4 _ _ _ h hP hD hS (lv_sub hl [0, 1, 2] rfl)
          · have h := ifn c15501 h
            refine lv_bipush (v := 10) hx hb dX7_readRound_163 (by decide) ?_
            refine lv_iload hx hb dX7_readRound_165 (lv_at hl 3 rfl) ?_
            refine lv_imul hx hb dX7_readRound_167 ?_
            refine lv_aload_n hx hb dX7_readRound_168 rfl (lv_at hl 0 rfl) ?_
            refine ka_get (v := .ref aM_tape) (C := RX7) (T := TX7) (Nf := 28) (ref := "BeepNetModel") hx hb hts hiX7 hown hK hP 0 rfl rfl 11 (by decide) k_2 rfl rfl dX7_readRound_169 ?_
            refine lv_iload hx hb dX7_readRound_172 (lv_at hl 4 rfl) ?_
            obtain ⟨v15510, ev15510, hn15511, h⟩ := ldx_s h
            refine ka_ild hx hb hK hP 2 0 ev15510 rfl rfl hn15511 dX7_readRound_174 ?_
            refine lv_iadd hx hb dX7_readRound_175 ?_
            refine lv_bipush (v := 48) hx hb dX7_readRound_176 (by decide) ?_
            refine lv_isub hx hb dX7_readRound_178 ?_
            obtain ⟨v15512, ev15512, h⟩ := bnd_s h
            refine kn_i ev15512 ?_
            refine lv_istore (lv' := [(5, .int v15512), (0, .ref aM), (1, .long x1), (4, .int x4), (6, .int x6)]) hx hb dX7_readRound_179 hl (by decide) rfl (fun ls hl => ?_)
            refine lv_iinc (v := x6 + 1) (lv' := [(6, .int (x6 + 1)), (5, .int v15512), (0, .ref aM), (1, .long x1), (4, .int x4)]) hx hb dX7_readRound_181 hl (k := 4) rfl rfl (by decide) rfl (fun ls hl => ?_)
            refine lv_goto (tgt := 154) hx hb dX7_readRound_184 (by decide) ?_
            exact ih154 M_read M_at M_sort M_from M_till M_fault M_faultAt M_reads x1 x4 v15512 (x6 + 1) _ _ _ h hP hD hS (lv_sub hl [2, 3, 4, 1, 0] rfl)
      intro M_read M_at M_sort M_from M_till M_fault M_faultAt M_reads x1 x4 H locs ls h hP hD hS hl
      rw [fX7_readRound_c122] at h
      refine lv_aload_n hx hb dX7_readRound_122 rfl (lv_at hl 0 rfl) ?_
      refine ka_get (v := .int M_fault) (C := RX7) (T := TX7) (Nf := 28) (ref := "BeepNetModel") hx hb hts hiX7 hown hK hP 0 rfl rfl 19 (by decide) k_3 rfl rfl dX7_readRound_123 ?_
      refine lv_if_ne (tgt := 231) hx hb dX7_readRound_126 (by decide) (fun c12301 => ?_) (fun c12301 => ?_)
      · have h := ifn c12301 h
        exact hC231 M_read M_at M_sort M_from M_till M_fault M_faultAt M_reads x4 _ _ _ h hP hD hS (lv_sub hl [0, 2] rfl)
      · have h := ift c12301 h
        refine lv_lload_n hx hb dX7_readRound_129 rfl (lv_at hl 1 rfl) ?_
        refine lv_ldc2 hx hb hown k_7 dX7_readRound_130 ?_
        refine W.lcmp hx hb dX7_readRound_133 ?_
        refine lv_if_ne (tgt := 231) hx hb dX7_readRound_134 (by decide) (fun c12302 => ?_) (fun c12302 => ?_)
        · have h := ifn c12302 h
          exact hC231 M_read M_at M_sort M_from M_till M_fault M_faultAt M_reads x4 _ _ _ h hP hD hS (lv_sub hl [0, 2] rfl)
        · have h := ift c12302 h
          refine lv_aload_n hx hb dX7_readRound_137 rfl (lv_at hl 0 rfl) ?_
          refine ka_get (v := .int M_sort) (C := RX7) (T := TX7) (Nf := 28) (ref := "BeepNetModel") hx hb hts hiX7 hown hK hP 0 rfl rfl 16 (by decide) k_6 rfl rfl dX7_readRound_138 ?_
          refine lv_iconst (v := 3) hx hb dX7_readRound_141 (by decide) ?_
          refine lv_icmp_ne (tgt := 231) hx hb dX7_readRound_142 (by decide) (fun c12303 => ?_) (fun c12303 => ?_)
          · have h := ifn c12303 h
            exact hC231 M_read M_at M_sort M_from M_till M_fault M_faultAt M_reads x4 _ _ _ h hP hD hS (lv_sub hl [0, 2] rfl)
          · have h := ift c12303 h
            refine lv_iconst (v := 0) hx hb dX7_readRound_145 (by decide) ?_
            refine lv_istore (lv' := [(5, .int 0), (0, .ref aM), (1, .long x1), (4, .int x4)]) hx hb dX7_readRound_146 hl (by decide) rfl (fun ls hl => ?_)
            refine lv_aload_n hx hb dX7_readRound_148 rfl (lv_at hl 1 rfl) ?_
            refine ka_get (v := .int M_from) (C := RX7) (T := TX7) (Nf := 28) (ref := "BeepNetModel") hx hb hts hiX7 hown hK hP 0 rfl rfl 17 (by decide) k_8 rfl rfl dX7_readRound_149 ?_
            refine lv_istore (lv' := [(6, .int M_from), (5, .int 0), (0, .ref aM), (1, .long x1), (4, .int x4)]) hx hb dX7_readRound_152 hl (by decide) rfl (fun ls hl => ?_)
            exact hC154 FU M_read M_at M_sort M_from M_till M_fault M_faultAt M_reads x1 x4 0 M_from _ _ _ h hP hD hS (lv_sub hl [2, 3, 4, 1, 0] rfl)
  have hC73 : ∀ (M_read : Int32) (M_at : Int32) (M_sort : Int32) (M_from : Int32) (M_till : Int32) (M_fault : Int32) (M_faultAt : Int32) (M_reads : Nat → Int32) (x1 : Int64) (x3 : Int32) (H : Heap) (locs : List Loc) (ls : Array Slot), fX7_readRound_c73 M_posts M_length M_tape M_read M_at M_sort M_from M_till M_fault M_faultAt M_reads x1 x3 = some (M_read_z, M_at_z, M_sort_z, M_from_z, M_till_z, M_fault_z, M_faultAt_z, M_reads_z) → va_P (dC, dI) vwCl [(aM, .inr (7, [.int M_thrown, .int M_status, .ref aM_lane, .ref aM_many, .ref aM_item, .int M_posts, .ref aM_beside, .int M_rounds, .ref aM_round, .int M_read, .ref aM_reads, .ref aM_tape, .int M_taped, .int M_latest, .int M_length, .int M_at, .int M_sort, .int M_from, .int M_till, .int M_fault, .int M_faultAt, .ref aM_fewest, .ref aM_may, .ref aM_then, .ref aM_cases, .ref aM_next, .ref aM_trace, .int M_traced])), (aM_reads, .inl (cI, 20, .inl M_reads)), (aM_tape, .inl (cI, 300, .inl M_tape))] H → va_D A [(aM, .inr (7, [.int M_thrown, .int M_status, .ref aM_lane, .ref aM_many, .ref aM_item, .int M_posts, .ref aM_beside, .int M_rounds, .ref aM_round, .int M_read, .ref aM_reads, .ref aM_tape, .int M_taped, .int M_latest, .int M_length, .int M_at, .int M_sort, .int M_from, .int M_till, .int M_fault, .int M_faultAt, .ref aM_fewest, .ref aM_may, .ref aM_then, .ref aM_cases, .ref aM_next, .ref aM_trace, .int M_traced])), (aM_reads, .inl (cI, 20, .inl M_reads)), (aM_tape, .inl (cI, 300, .inl M_tape))] → va_S A s.heap H locs → lv_has ls 7 [(0, .ref aM), (1, .long x1), (3, .int x3)] → W p l e rmX7_readRound s m args below meth c H locs 0 0 Q (F0 m 73 ls []) := by
    intro M_read M_at M_sort M_from M_till M_fault M_faultAt M_reads x1 x3 H locs ls h hP hD hS hl
    unfold fX7_readRound_c73 at h
    refine lv_aload_n hx hb dX7_readRound_73 rfl (lv_at hl 0 rfl) ?_
    refine lv_iload_n hx hb dX7_readRound_74 rfl (lv_at hl 2 rfl) ?_
    obtain ⟨M_at_7401, M_sort_7402, M_from_7403, M_till_7404, M_fault_7405, M_faultAt_7406, e7407, h⟩ := bd6_s h
    refine kc_vv (rest := []) (wr := [(aM_reads, .inl (cI, 20, .inl M_reads))]) (wF := [(aM, .inr (7, [.int M_thrown, .int M_status, .ref aM_lane, .ref aM_many, .ref aM_item, .int M_posts, .ref aM_beside, .int M_rounds, .ref aM_round, .int M_read, .ref aM_reads, .ref aM_tape, .int M_taped, .int M_latest, .int M_length, .int M_at_7401, .int M_sort_7402, .int M_from_7403, .int M_till_7404, .int M_fault_7405, .int M_faultAt_7406, .ref aM_fewest, .ref aM_may, .ref aM_then, .ref aM_cases, .ref aM_next, .ref aM_trace, .int M_traced])), (aM_reads, .inl (cI, 20, .inl M_reads)), (aM_tape, .inl (cI, 300, .inl M_tape))]) ⟨hx, hb, hml, hown, hts⟩ (c_X7_need l dC dI cI cJ cZ cA aM aM_lane aM_many aM_item aM_beside aM_round aM_reads aM_tape aM_fewest aM_may aM_then aM_cases aM_next aM_trace M_thrown M_status M_posts M_rounds M_read M_taped M_latest M_length M_at M_sort M_from M_till M_fault M_faultAt M_traced M_tape x3 M_at_7401 M_sort_7402 M_from_7403 M_till_7404 M_fault_7405 M_faultAt_7406 e7407) (cwV 1 hts gX7_readRound_X7_need rfl rfl rfl (by decide +kernel) ⟨Nat.le_of_ble_eq_true rfl, Nat.le_of_ble_eq_true rfl⟩) hK hP hD hS hA [0, 2] [1] [1, 0, 2] 0 rfl rfl rfl rfl (by decide) rfl rfl rfl rfl rfl rfl hl.1 rfl (Nat.le_of_ble_eq_true rfl) dX7_readRound_75 ⟨Nat.zero_le _, Nat.zero_le _⟩ (fun H locs hP hD hS => ?_)
    refine lv_lload_n hx hb dX7_readRound_78 rfl (lv_at hl 1 rfl) ?_
    refine lv_ldc2 hx hb hown k_9 dX7_readRound_79 ?_
    refine W.lcmp hx hb dX7_readRound_82 ?_
    refine lv_if_ne (tgt := 90) hx hb dX7_readRound_83 (by decide) (fun c7408 => ?_) (fun c7408 => ?_)
    · have h := ifn c7408 h
      refine lv_lload_n hx hb dX7_readRound_90 rfl (lv_at hl 1 rfl) ?_
      refine lv_ldc2 hx hb hown k_10 dX7_readRound_91 ?_
      refine W.lcmp hx hb dX7_readRound_94 ?_
      refine lv_if_ne (tgt := 119) hx hb dX7_readRound_95 (by decide) (fun c7409 => ?_) (fun c7409 => ?_)
      · have h := ifn c7409 h
        refine lv_iconst (v := 0) hx hb dX7_readRound_119 (by decide) ?_
        refine lv_istore (lv' := [(4, .int 0), (0, .ref aM), (1, .long x1), (3, .int x3)]) hx hb dX7_readRound_120 hl (by decide) rfl (fun ls hl => ?_)
        exact hC122 FU M_read M_at_7401 M_sort_7402 M_from_7403 M_till_7404 M_fault_7405 M_faultAt_7406 M_reads x1 0 _ _ _ h hP hD hS (lv_sub hl [1, 2, 0] rfl)
      · have h := ift c7409 h
        refine lv_aload_n hx hb dX7_readRound_98 rfl (lv_at hl 0 rfl) ?_
        refine ka_get (v := .int M_read) (C := RX7) (T := TX7) (Nf := 28) (ref := "BeepNetModel") hx hb hts hiX7 hown hK hP 0 rfl rfl 9 (by decide) k_5 rfl rfl dX7_readRound_99 ?_
        refine lv_if_le (tgt := 119) hx hb dX7_readRound_102 (by decide) (fun c7410 => ?_) (fun c7410 => ?_)
        · have h := ift c7410 h
          refine lv_iconst (v := 0) hx hb dX7_readRound_119 (by decide) ?_
          refine lv_istore (lv' := [(4, .int 0), (0, .ref aM), (1, .long x1), (3, .int x3)]) hx hb dX7_readRound_120 hl (by decide) rfl (fun ls hl => ?_)
          exact hC122 FU M_read M_at_7401 M_sort_7402 M_from_7403 M_till_7404 M_fault_7405 M_faultAt_7406 M_reads x1 0 _ _ _ h hP hD hS (lv_sub hl [1, 2, 0] rfl)
        · have h := ifn c7410 h
          refine lv_aload_n hx hb dX7_readRound_105 rfl (lv_at hl 0 rfl) ?_
          refine ka_get (v := .ref aM_reads) (C := RX7) (T := TX7) (Nf := 28) (ref := "BeepNetModel") hx hb hts hiX7 hown hK hP 0 rfl rfl 10 (by decide) k_4 rfl rfl dX7_readRound_106 ?_
          refine lv_aload_n hx hb dX7_readRound_109 rfl (lv_at hl 0 rfl) ?_
          refine ka_get (v := .int M_read) (C := RX7) (T := TX7) (Nf := 28) (ref := "BeepNetModel") hx hb hts hiX7 hown hK hP 0 rfl rfl 9 (by decide) k_5 rfl rfl dX7_readRound_110 ?_
          refine lv_iconst (v := 1) hx hb dX7_readRound_113 (by decide) ?_
          refine lv_isub hx hb dX7_readRound_114 ?_
          obtain ⟨v7411, ev7411, hn7412, h⟩ := ldx_s h
          refine ka_ild hx hb hK hP 1 0 ev7411 rfl rfl hn7412 dX7_readRound_115 ?_
          refine lv_goto (tgt := 120) hx hb dX7_readRound_116 (by decide) ?_
          refine lv_istore (lv' := [(4, .int v7411), (0, .ref aM), (1, .long x1), (3, .int x3)]) hx hb dX7_readRound_120 hl (by decide) rfl (fun ls hl => ?_)
          exact hC122 FU M_read M_at_7401 M_sort_7402 M_from_7403 M_till_7404 M_fault_7405 M_faultAt_7406 M_reads x1 v7411 _ _ _ h hP hD hS (lv_sub hl [1, 2, 0] rfl)
    · have h := ift c7408 h
      refine lv_iconst (v := -1) hx hb dX7_readRound_86 (by decide) ?_
      refine lv_goto (tgt := 120) hx hb dX7_readRound_87 (by decide) ?_
      refine lv_istore (lv' := [(4, .int (-1)), (0, .ref aM), (1, .long x1), (3, .int x3)]) hx hb dX7_readRound_120 hl (by decide) rfl (fun ls hl => ?_)
      exact hC122 FU M_read M_at_7401 M_sort_7402 M_from_7403 M_till_7404 M_fault_7405 M_faultAt_7406 M_reads x1 (-1) _ _ _ h hP hD hS (lv_sub hl [1, 2, 0] rfl)
  have hC55 : ∀ (M_read : Int32) (M_at : Int32) (M_sort : Int32) (M_from : Int32) (M_till : Int32) (M_fault : Int32) (M_faultAt : Int32) (M_reads : Nat → Int32) (x1 : Int64) (x3 : Int32) (H : Heap) (locs : List Loc) (ls : Array Slot), fX7_readRound_c55 M_posts M_length M_tape M_read M_at M_sort M_from M_till M_fault M_faultAt M_reads x1 x3 = some (M_read_z, M_at_z, M_sort_z, M_from_z, M_till_z, M_fault_z, M_faultAt_z, M_reads_z) → va_P (dC, dI) vwCl [(aM, .inr (7, [.int M_thrown, .int M_status, .ref aM_lane, .ref aM_many, .ref aM_item, .int M_posts, .ref aM_beside, .int M_rounds, .ref aM_round, .int M_read, .ref aM_reads, .ref aM_tape, .int M_taped, .int M_latest, .int M_length, .int M_at, .int M_sort, .int M_from, .int M_till, .int M_fault, .int M_faultAt, .ref aM_fewest, .ref aM_may, .ref aM_then, .ref aM_cases, .ref aM_next, .ref aM_trace, .int M_traced])), (aM_reads, .inl (cI, 20, .inl M_reads)), (aM_tape, .inl (cI, 300, .inl M_tape))] H → va_D A [(aM, .inr (7, [.int M_thrown, .int M_status, .ref aM_lane, .ref aM_many, .ref aM_item, .int M_posts, .ref aM_beside, .int M_rounds, .ref aM_round, .int M_read, .ref aM_reads, .ref aM_tape, .int M_taped, .int M_latest, .int M_length, .int M_at, .int M_sort, .int M_from, .int M_till, .int M_fault, .int M_faultAt, .ref aM_fewest, .ref aM_may, .ref aM_then, .ref aM_cases, .ref aM_next, .ref aM_trace, .int M_traced])), (aM_reads, .inl (cI, 20, .inl M_reads)), (aM_tape, .inl (cI, 300, .inl M_tape))] → va_S A s.heap H locs → lv_has ls 7 [(0, .ref aM), (1, .long x1), (3, .int x3)] → W p l e rmX7_readRound s m args below meth c H locs 0 0 Q (F0 m 55 ls []) := by
    intro M_read M_at M_sort M_from M_till M_fault M_faultAt M_reads x1 x3 H locs ls h hP hD hS hl
    unfold fX7_readRound_c55 at h
    refine lv_iload_n hx hb dX7_readRound_55 rfl (lv_at hl 2 rfl) ?_
    refine lv_if_eq (tgt := 73) hx hb dX7_readRound_56 (by decide) (fun c5601 => ?_) (fun c5601 => ?_)
    · have h := ift c5601 h
      exact hC73 M_read M_at M_sort M_from M_till M_fault M_faultAt M_reads x1 x3 _ _ _ h hP hD hS (lv_sub hl [0, 1, 2] rfl)
    · have h := ifn c5601 h
      refine lv_aload_n hx hb dX7_readRound_59 rfl (lv_at hl 0 rfl) ?_
      refine ka_get (v := .int M_read) (C := RX7) (T := TX7) (Nf := 28) (ref := "BeepNetModel") hx hb hts hiX7 hown hK hP 0 rfl rfl 9 (by decide) k_5 rfl rfl dX7_readRound_60 ?_
      refine lv_bipush (v := 20) hx hb dX7_readRound_63 (by decide) ?_
      refine lv_icmp_ne (tgt := 73) hx hb dX7_readRound_65 (by decide) (fun c5602 => ?_) (fun c5602 => ?_)
      · have h := ifn c5602 h
        exact hC73 M_read M_at M_sort M_from M_till M_fault M_faultAt M_reads x1 x3 _ _ _ h hP hD hS (lv_sub hl [0, 1, 2] rfl)
      · have h := ift c5602 h
        refine lv_aload_n hx hb dX7_readRound_68 rfl (lv_at hl 0 rfl) ?_
        refine lv_iconst (v := 3) hx hb dX7_readRound_69 (by decide) ?_
        obtain ⟨M_fault_5603, M_faultAt_5604, e5605, h⟩ := bd2_s h
        refine kc_vv (rest := []) (wr := [(aM_reads, .inl (cI, 20, .inl M_reads)), (aM_tape, .inl (cI, 300, .inl M_tape))]) (wF := [(aM, .inr (7, [.int M_thrown, .int M_status, .ref aM_lane, .ref aM_many, .ref aM_item, .int M_posts, .ref aM_beside, .int M_rounds, .ref aM_round, .int M_read, .ref aM_reads, .ref aM_tape, .int M_taped, .int M_latest, .int M_length, .int M_at, .int M_sort, .int M_from, .int M_till, .int M_fault_5603, .int M_faultAt_5604, .ref aM_fewest, .ref aM_may, .ref aM_then, .ref aM_cases, .ref aM_next, .ref aM_trace, .int M_traced])), (aM_reads, .inl (cI, 20, .inl M_reads)), (aM_tape, .inl (cI, 300, .inl M_tape))]) ⟨hx, hb, hml, hown, hts⟩ (c_X7_bad l dC dI cI cJ cZ cA aM aM_lane aM_many aM_item aM_beside aM_round aM_reads aM_tape aM_fewest aM_may aM_then aM_cases aM_next aM_trace M_thrown M_status M_posts M_rounds M_read M_taped M_latest M_length M_at M_sort M_from M_till M_fault M_faultAt M_traced 3 M_fault_5603 M_faultAt_5604 e5605) (cwV 1 hts gX7_readRound_X7_bad rfl rfl rfl (by decide +kernel) ⟨Nat.le_of_ble_eq_true rfl, Nat.le_of_ble_eq_true rfl⟩) hK hP hD hS hA [0] [1, 2] [2, 0, 1] 0 rfl rfl rfl rfl (by decide) rfl rfl rfl rfl rfl rfl hl.1 rfl (Nat.le_of_ble_eq_true rfl) dX7_readRound_70 ⟨Nat.zero_le _, Nat.zero_le _⟩ (fun H locs hP hD hS => ?_)
        exact hC73 M_read M_at M_sort M_from M_till M_fault_5603 M_faultAt_5604 M_reads x1 x3 _ _ _ h hP hD hS (lv_sub hl [0, 1, 2] rfl)
  have hC34 : ∀ (M_read : Int32) (M_at : Int32) (M_sort : Int32) (M_from : Int32) (M_till : Int32) (M_fault : Int32) (M_faultAt : Int32) (M_reads : Nat → Int32) (x1 : Int64) (t0 : Int32) (H : Heap) (locs : List Loc) (ls : Array Slot), fX7_readRound_c34 M_posts M_length M_tape M_read M_at M_sort M_from M_till M_fault M_faultAt M_reads x1 t0 = some (M_read_z, M_at_z, M_sort_z, M_from_z, M_till_z, M_fault_z, M_faultAt_z, M_reads_z) → va_P (dC, dI) vwCl [(aM, .inr (7, [.int M_thrown, .int M_status, .ref aM_lane, .ref aM_many, .ref aM_item, .int M_posts, .ref aM_beside, .int M_rounds, .ref aM_round, .int M_read, .ref aM_reads, .ref aM_tape, .int M_taped, .int M_latest, .int M_length, .int M_at, .int M_sort, .int M_from, .int M_till, .int M_fault, .int M_faultAt, .ref aM_fewest, .ref aM_may, .ref aM_then, .ref aM_cases, .ref aM_next, .ref aM_trace, .int M_traced])), (aM_reads, .inl (cI, 20, .inl M_reads)), (aM_tape, .inl (cI, 300, .inl M_tape))] H → va_D A [(aM, .inr (7, [.int M_thrown, .int M_status, .ref aM_lane, .ref aM_many, .ref aM_item, .int M_posts, .ref aM_beside, .int M_rounds, .ref aM_round, .int M_read, .ref aM_reads, .ref aM_tape, .int M_taped, .int M_latest, .int M_length, .int M_at, .int M_sort, .int M_from, .int M_till, .int M_fault, .int M_faultAt, .ref aM_fewest, .ref aM_may, .ref aM_then, .ref aM_cases, .ref aM_next, .ref aM_trace, .int M_traced])), (aM_reads, .inl (cI, 20, .inl M_reads)), (aM_tape, .inl (cI, 300, .inl M_tape))] → va_S A s.heap H locs → lv_has ls 7 [(0, .ref aM), (1, .long x1)] → W p l e rmX7_readRound s m args below meth c H locs 0 0 Q (F0 m 34 ls [.int t0]) := by
    intro M_read M_at M_sort M_from M_till M_fault M_faultAt M_reads x1 t0 H locs ls h hP hD hS hl
    unfold fX7_readRound_c34 at h
    refine lv_istore_n (lv' := [(3, .int t0), (0, .ref aM), (1, .long x1)]) hx hb dX7_readRound_34 rfl hl (by decide) rfl (fun ls hl => ?_)
    refine lv_lload_n hx hb dX7_readRound_35 rfl (lv_at hl 2 rfl) ?_
    refine lv_ldc2 hx hb hown k_10 dX7_readRound_36 ?_
    refine W.lcmp hx hb dX7_readRound_39 ?_
    refine lv_if_ne (tgt := 55) hx hb dX7_readRound_40 (by decide) (fun c3501 => ?_) (fun c3501 => ?_)
    · have h := ifn c3501 h
      exact hC55 M_read M_at M_sort M_from M_till M_fault M_faultAt M_reads x1 t0 _ _ _ h hP hD hS (lv_sub hl [1, 2, 0] rfl)
    · have h := ift c3501 h
      refine lv_aload_n hx hb dX7_readRound_43 rfl (lv_at hl 1 rfl) ?_
      refine ka_get (v := .int M_read) (C := RX7) (T := TX7) (Nf := 28) (ref := "BeepNetModel") hx hb hts hiX7 hown hK hP 0 rfl rfl 9 (by decide) k_5 rfl rfl dX7_readRound_44 ?_
      refine lv_if_ne (tgt := 55) hx hb dX7_readRound_47 (by decide) (fun c3502 => ?_) (fun c3502 => ?_)
      · have h := ifn c3502 h
        exact hC55 M_read M_at M_sort M_from M_till M_fault M_faultAt M_reads x1 t0 _ _ _ h hP hD hS (lv_sub hl [1, 2, 0] rfl)
      · have h := ift c3502 h
        refine lv_aload_n hx hb dX7_readRound_50 rfl (lv_at hl 1 rfl) ?_
        refine lv_iconst (v := 2) hx hb dX7_readRound_51 (by decide) ?_
        obtain ⟨M_fault_3503, M_faultAt_3504, e3505, h⟩ := bd2_s h
        refine kc_vv (rest := []) (wr := [(aM_reads, .inl (cI, 20, .inl M_reads)), (aM_tape, .inl (cI, 300, .inl M_tape))]) (wF := [(aM, .inr (7, [.int M_thrown, .int M_status, .ref aM_lane, .ref aM_many, .ref aM_item, .int M_posts, .ref aM_beside, .int M_rounds, .ref aM_round, .int M_read, .ref aM_reads, .ref aM_tape, .int M_taped, .int M_latest, .int M_length, .int M_at, .int M_sort, .int M_from, .int M_till, .int M_fault_3503, .int M_faultAt_3504, .ref aM_fewest, .ref aM_may, .ref aM_then, .ref aM_cases, .ref aM_next, .ref aM_trace, .int M_traced])), (aM_reads, .inl (cI, 20, .inl M_reads)), (aM_tape, .inl (cI, 300, .inl M_tape))]) ⟨hx, hb, hml, hown, hts⟩ (c_X7_bad l dC dI cI cJ cZ cA aM aM_lane aM_many aM_item aM_beside aM_round aM_reads aM_tape aM_fewest aM_may aM_then aM_cases aM_next aM_trace M_thrown M_status M_posts M_rounds M_read M_taped M_latest M_length M_at M_sort M_from M_till M_fault M_faultAt M_traced 2 M_fault_3503 M_faultAt_3504 e3505) (cwV 1 hts gX7_readRound_X7_bad rfl rfl rfl (by decide +kernel) ⟨Nat.le_of_ble_eq_true rfl, Nat.le_of_ble_eq_true rfl⟩) hK hP hD hS hA [0] [1, 2] [2, 0, 1] 0 rfl rfl rfl rfl (by decide) rfl rfl rfl rfl rfl rfl hl.1 rfl (Nat.le_of_ble_eq_true rfl) dX7_readRound_52 ⟨Nat.zero_le _, Nat.zero_le _⟩ (fun H locs hP hD hS => ?_)
        exact hC55 M_read M_at M_sort M_from M_till M_fault_3503 M_faultAt_3504 M_reads x1 t0 _ _ _ h hP hD hS (lv_sub hl [1, 2, 0] rfl)
  have hC29 : ∀ (M_read : Int32) (M_at : Int32) (M_sort : Int32) (M_from : Int32) (M_till : Int32) (M_fault : Int32) (M_faultAt : Int32) (M_reads : Nat → Int32) (x1 : Int64) (H : Heap) (locs : List Loc) (ls : Array Slot), fX7_readRound_c29 M_posts M_length M_tape M_read M_at M_sort M_from M_till M_fault M_faultAt M_reads x1 = some (M_read_z, M_at_z, M_sort_z, M_from_z, M_till_z, M_fault_z, M_faultAt_z, M_reads_z) → va_P (dC, dI) vwCl [(aM, .inr (7, [.int M_thrown, .int M_status, .ref aM_lane, .ref aM_many, .ref aM_item, .int M_posts, .ref aM_beside, .int M_rounds, .ref aM_round, .int M_read, .ref aM_reads, .ref aM_tape, .int M_taped, .int M_latest, .int M_length, .int M_at, .int M_sort, .int M_from, .int M_till, .int M_fault, .int M_faultAt, .ref aM_fewest, .ref aM_may, .ref aM_then, .ref aM_cases, .ref aM_next, .ref aM_trace, .int M_traced])), (aM_reads, .inl (cI, 20, .inl M_reads)), (aM_tape, .inl (cI, 300, .inl M_tape))] H → va_D A [(aM, .inr (7, [.int M_thrown, .int M_status, .ref aM_lane, .ref aM_many, .ref aM_item, .int M_posts, .ref aM_beside, .int M_rounds, .ref aM_round, .int M_read, .ref aM_reads, .ref aM_tape, .int M_taped, .int M_latest, .int M_length, .int M_at, .int M_sort, .int M_from, .int M_till, .int M_fault, .int M_faultAt, .ref aM_fewest, .ref aM_may, .ref aM_then, .ref aM_cases, .ref aM_next, .ref aM_trace, .int M_traced])), (aM_reads, .inl (cI, 20, .inl M_reads)), (aM_tape, .inl (cI, 300, .inl M_tape))] → va_S A s.heap H locs → lv_has ls 7 [(0, .ref aM), (1, .long x1)] → W p l e rmX7_readRound s m args below meth c H locs 0 0 Q (F0 m 29 ls []) := by
    intro M_read M_at M_sort M_from M_till M_fault M_faultAt M_reads x1 H locs ls h hP hD hS hl
    unfold fX7_readRound_c29 at h
    refine lv_iconst (v := 1) hx hb dX7_readRound_29 (by decide) ?_
    refine lv_goto (tgt := 34) hx hb dX7_readRound_30 (by decide) ?_
    exact hC34 M_read M_at M_sort M_from M_till M_fault M_faultAt M_reads x1 1 _ _ _ h hP hD hS (lv_sub hl [0, 1] rfl)
  unfold fX7_readRound at h
  refine lv_aload_n hx hb dX7_readRound_0 rfl (lv_at hl 0 rfl) ?_
  obtain ⟨r1, e2, h⟩ := bd1_s h
  refine kc_vl (rest := []) (wr := [(aM_reads, .inl (cI, 20, .inl M_reads))]) (wF := [(aM, .inr (7, [.int M_thrown, .int M_status, .ref aM_lane, .ref aM_many, .ref aM_item, .int M_posts, .ref aM_beside, .int M_rounds, .ref aM_round, .int M_read, .ref aM_reads, .ref aM_tape, .int M_taped, .int M_latest, .int M_length, .int M_at, .int M_sort, .int M_from, .int M_till, .int M_fault, .int M_faultAt, .ref aM_fewest, .ref aM_may, .ref aM_then, .ref aM_cases, .ref aM_next, .ref aM_trace, .int M_traced])), (aM_reads, .inl (cI, 20, .inl M_reads)), (aM_tape, .inl (cI, 300, .inl M_tape))]) ⟨hx, hb, hml, hown, hts⟩ (c_X7_word l dC dI cI cJ cZ cA aM aM_lane aM_many aM_item aM_beside aM_round aM_reads aM_tape aM_fewest aM_may aM_then aM_cases aM_next aM_trace M_thrown M_status M_posts M_rounds M_read M_taped M_latest M_length M_at M_sort M_from M_till M_fault M_faultAt M_traced M_tape r1 e2) (cwV 0 hts gX7_readRound_X7_word rfl rfl rfl (by decide +kernel) ⟨Nat.le_of_ble_eq_true rfl, Nat.le_of_ble_eq_true rfl⟩) hK hP hD hS hA [0, 2] [1] [1, 0, 2] 0 rfl rfl rfl rfl (by decide) rfl rfl rfl rfl rfl rfl hl.1 rfl (Nat.le_of_ble_eq_true rfl) dX7_readRound_1 ⟨Nat.zero_le _, Nat.zero_le _⟩ (fun H locs hP hD hS => ?_)
  refine lv_lstore_n (lv' := [(1, .long r1), (0, .ref aM)]) hx hb dX7_readRound_4 rfl hl (by decide) rfl (fun ls hl => ?_)
  refine lv_lload_n hx hb dX7_readRound_5 rfl (lv_at hl 0 rfl) ?_
  refine lv_ldc2 hx hb hown k_7 dX7_readRound_6 ?_
  refine W.lcmp hx hb dX7_readRound_9 ?_
  refine lv_if_eq (tgt := 29) hx hb dX7_readRound_10 (by decide) (fun c3 => ?_) (fun c3 => ?_)
  · have h := ift c3 h
    exact hC29 M_read M_at M_sort M_from M_till M_fault M_faultAt M_reads r1 _ _ _ h hP hD hS (lv_sub hl [1, 0] rfl)
  · have h := ifn c3 h
    refine lv_lload_n hx hb dX7_readRound_13 rfl (lv_at hl 0 rfl) ?_
    refine lv_ldc2 hx hb hown k_9 dX7_readRound_14 ?_
    refine W.lcmp hx hb dX7_readRound_17 ?_
    refine lv_if_eq (tgt := 29) hx hb dX7_readRound_18 (by decide) (fun c4 => ?_) (fun c4 => ?_)
    · have h := ift c4 h
      exact hC29 M_read M_at M_sort M_from M_till M_fault M_faultAt M_reads r1 _ _ _ h hP hD hS (lv_sub hl [1, 0] rfl)
    · have h := ifn c4 h
      refine lv_lload_n hx hb dX7_readRound_21 rfl (lv_at hl 0 rfl) ?_
      refine lv_ldc2 hx hb hown k_10 dX7_readRound_22 ?_
      refine W.lcmp hx hb dX7_readRound_25 ?_
      refine lv_if_ne (tgt := 33) hx hb dX7_readRound_26 (by decide) (fun c5 => ?_) (fun c5 => ?_)
      · have h := ifn c5 h
        refine lv_iconst (v := 0) hx hb dX7_readRound_33 (by decide) ?_
        exact hC34 M_read M_at M_sort M_from M_till M_fault M_faultAt M_reads r1 0 _ _ _ h hP hD hS (lv_sub hl [1, 0] rfl)
      · have h := ift c5 h
        exact hC29 M_read M_at M_sort M_from M_till M_fault M_faultAt M_reads r1 _ _ _ h hP hD hS (lv_sub hl [1, 0] rfl)
