set_option maxHeartbeats 4000000 in
set_option maxRecDepth 100000 in
theorem c_X7_widthOf (l : Launch) (dC : Nat → ClassId) (dI : Nat → Nat → Nat) (cI cJ cZ cA : ClassId) (aM aM_lane aM_many aM_item aM_beside aM_round aM_reads aM_tape aM_fewest aM_may aM_then aM_cases aM_next aM_trace : Nat) (M_thrown : Int32) (M_status : Int32) (M_posts : Int32) (M_rounds : Int32) (M_read : Int32) (M_taped : Int32) (M_latest : Int32) (M_length : Int32) (M_at : Int32) (M_sort : Int32) (M_from : Int32) (M_till : Int32) (M_fault : Int32) (M_faultAt : Int32) (M_traced : Int32) (M_beside : Nat → Int32) (p0 : Int32) (rr : Int32) (h : fX7_widthOf M_posts M_beside p0 = some rr) : Cti l yX7_widthOf wsX7_widthOf rmX7_widthOf (dC, dI) (tyL cI cJ cZ cA) [(aM, .inr (7, [.int M_thrown, .int M_status, .ref aM_lane, .ref aM_many, .ref aM_item, .int M_posts, .ref aM_beside, .int M_rounds, .ref aM_round, .int M_read, .ref aM_reads, .ref aM_tape, .int M_taped, .int M_latest, .int M_length, .int M_at, .int M_sort, .int M_from, .int M_till, .int M_fault, .int M_faultAt, .ref aM_fewest, .ref aM_may, .ref aM_then, .ref aM_cases, .ref aM_next, .ref aM_trace, .int M_traced])), (aM_beside, .inl (cI, 8, .inl M_beside))] [(aM, .inr (7, [.int M_thrown, .int M_status, .ref aM_lane, .ref aM_many, .ref aM_item, .int M_posts, .ref aM_beside, .int M_rounds, .ref aM_round, .int M_read, .ref aM_reads, .ref aM_tape, .int M_taped, .int M_latest, .int M_length, .int M_at, .int M_sort, .int M_from, .int M_till, .int M_fault, .int M_faultAt, .ref aM_fewest, .ref aM_may, .ref aM_then, .ref aM_cases, .ref aM_next, .ref aM_trace, .int M_traced])), (aM_beside, .inl (cI, 8, .inl M_beside))] [.ref aM, .int p0] rr := by
  refine ct_int (ty := .int) (cc := cX7_widthOf) (maxL := 4) (by decide) rfl (Nat.le_of_ble_eq_true rfl) ?_
  intro p e s m args below meth c A Q ls hx hb hml hown hts hA hK hP hD hS hl hret
  have hl : lv_has ls 4 [(0, .ref aM), (1, .int p0)] := hl
  have k_0 := hts (.fieldLink RX7 76 "BeepNetModel" "posts" "I") (by decide +kernel)
  have hiX7 : ∀ w ∈ u_ws RX7 TX7 28, w ∈ wsX7_widthOf := fun w hw => List.mem_cons_of_mem _ (List.mem_append_right _ hw)
  have hC4 : ∀ (n : Nat) (x1 : Int32) (x2 : Int32) (x3 : Int32) (H : Heap) (locs : List Loc) (ls : Array Slot), fX7_widthOf_c4 M_posts M_beside n x1 x2 x3 = some rr → va_P (dC, dI) vwCl [(aM, .inr (7, [.int M_thrown, .int M_status, .ref aM_lane, .ref aM_many, .ref aM_item, .int M_posts, .ref aM_beside, .int M_rounds, .ref aM_round, .int M_read, .ref aM_reads, .ref aM_tape, .int M_taped, .int M_latest, .int M_length, .int M_at, .int M_sort, .int M_from, .int M_till, .int M_fault, .int M_faultAt, .ref aM_fewest, .ref aM_may, .ref aM_then, .ref aM_cases, .ref aM_next, .ref aM_trace, .int M_traced])), (aM_beside, .inl (cI, 8, .inl M_beside))] H → va_D A [(aM, .inr (7, [.int M_thrown, .int M_status, .ref aM_lane, .ref aM_many, .ref aM_item, .int M_posts, .ref aM_beside, .int M_rounds, .ref aM_round, .int M_read, .ref aM_reads, .ref aM_tape, .int M_taped, .int M_latest, .int M_length, .int M_at, .int M_sort, .int M_from, .int M_till, .int M_fault, .int M_faultAt, .ref aM_fewest, .ref aM_may, .ref aM_then, .ref aM_cases, .ref aM_next, .ref aM_trace, .int M_traced])), (aM_beside, .inl (cI, 8, .inl M_beside))] → va_S A s.heap H locs → lv_has ls 4 [(0, .ref aM), (1, .int x1), (2, .int x2), (3, .int x3)] → W p l e rmX7_widthOf s m args below meth c H locs 0 0 Q (F0 m 4 ls []) := by
    intro n
    induction n with
    | zero => intro x1 x2 x3 H locs ls h; rw [fX7_widthOf_c4] at h; cases h
    | succ n4 ih4 =>
      intro x1 x2 x3 H locs ls h hP hD hS hl
      rw [fX7_widthOf_c4] at h
      refine lv_iload_n hx hb dX7_widthOf_4 rfl (lv_at hl 3 rfl) ?_
      refine lv_aload_n hx hb dX7_widthOf_5 rfl (lv_at hl 0 rfl) ?_
      refine ka_get (v := .int M_posts) (C := RX7) (T := TX7) (Nf := 28) (ref := "BeepNetModel") hx hb hts hiX7 hown hK hP 0 rfl rfl 5 (by decide) k_0 rfl rfl dX7_widthOf_6 ?_
      refine lv_icmp_ge (tgt := 39) hx hb dX7_widthOf_9 (by decide) (fun c501 => ?_) (fun c501 => ?_)
      · have h := ift c501 h
        refine lv_iload_n hx hb dX7_widthOf_39 rfl (lv_at hl 2 rfl) ?_
        obtain rfl := sj1 h
        exact hret _ _ _ _ _ rfl rfl hP hD hS dX7_widthOf_40
      · have h := ifn c501 h
        refine lv_aload_n hx hb dX7_widthOf_12 rfl (lv_at hl 0 rfl) ?_
        refine lv_iload_n hx hb dX7_widthOf_13 rfl (lv_at hl 1 rfl) ?_
        refine lv_iload_n hx hb dX7_widthOf_14 rfl (lv_at hl 3 rfl) ?_
        obtain ⟨r502, e503, h⟩ := bd1_s h
        refine kc_vi (rest := []) (wr := []) (wF := [(aM, .inr (7, [.int M_thrown, .int M_status, .ref aM_lane, .ref aM_many, .ref aM_item, .int M_posts, .ref aM_beside, .int M_rounds, .ref aM_round, .int M_read, .ref aM_reads, .ref aM_tape, .int M_taped, .int M_latest, .int M_length, .int M_at, .int M_sort, .int M_from, .int M_till, .int M_fault, .int M_faultAt, .ref aM_fewest, .ref aM_may, .ref aM_then, .ref aM_cases, .ref aM_next, .ref aM_trace, .int M_traced])), (aM_beside, .inl (cI, 8, .inl M_beside))]) ⟨hx, hb, hml, hown, hts⟩ (c_X7_farOf l dC dI cI cJ cZ cA aM aM_lane aM_many aM_item aM_beside aM_round aM_reads aM_tape aM_fewest aM_may aM_then aM_cases aM_next aM_trace M_thrown M_status M_posts M_rounds M_read M_taped M_latest M_length M_at M_sort M_from M_till M_fault M_faultAt M_traced M_beside x1 x3 r502 e503) (cwV 2 hts gX7_widthOf_X7_farOf rfl rfl rfl (by decide +kernel) ⟨Nat.le_of_ble_eq_true rfl, Nat.le_of_ble_eq_true rfl⟩) hK hP hD hS hA [0, 1] [] [0, 1] 0 rfl rfl rfl rfl (by decide) rfl rfl rfl rfl rfl rfl hl.1 rfl (Nat.le_of_ble_eq_true rfl) dX7_widthOf_15 ⟨Nat.zero_le _, Nat.zero_le _⟩ (fun H locs hP hD hS => ?_)
        refine lv_iload_n hx hb dX7_widthOf_18 rfl (lv_at hl 2 rfl) ?_
        refine lv_icmp_le (tgt := 31) hx hb dX7_widthOf_19 (by decide) (fun c504 => ?_) (fun c504 => ?_)
        · have h := ift c504 h
          refine lv_iload_n hx hb dX7_widthOf_31 rfl (lv_at hl 2 rfl) ?_
          refine lv_istore_n (lv' := [(2, .int x2), (0, .ref aM), (1, .int x1), (3, .int x3)]) hx hb dX7_widthOf_32 rfl hl (by decide) rfl (fun ls hl => ?_)
          refine lv_iinc (v := x3 + 1) (lv' := [(3, .int (x3 + 1)), (2, .int x2), (0, .ref aM), (1, .int x1)]) hx hb dX7_widthOf_33 hl (k := 3) rfl rfl (by decide) rfl (fun ls hl => ?_)
          refine lv_goto (tgt := 4) hx hb dX7_widthOf_36 (by decide) ?_
          exact ih4 x1 x2 (x3 + 1) _ _ _ h hP hD hS (lv_sub hl [2, 3, 1, 0] rfl)
        · have h := ifn c504 h
          refine lv_aload_n hx hb dX7_widthOf_22 rfl (lv_at hl 0 rfl) ?_
          refine lv_iload_n hx hb dX7_widthOf_23 rfl (lv_at hl 1 rfl) ?_
          refine lv_iload_n hx hb dX7_widthOf_24 rfl (lv_at hl 3 rfl) ?_
          obtain ⟨r505, e506, h⟩ := bd1_s h
          refine kc_vi (rest := []) (wr := []) (wF := [(aM, .inr (7, [.int M_thrown, .int M_status, .ref aM_lane, .ref aM_many, .ref aM_item, .int M_posts, .ref aM_beside, .int M_rounds, .ref aM_round, .int M_read, .ref aM_reads, .ref aM_tape, .int M_taped, .int M_latest, .int M_length, .int M_at, .int M_sort, .int M_from, .int M_till, .int M_fault, .int M_faultAt, .ref aM_fewest, .ref aM_may, .ref aM_then, .ref aM_cases, .ref aM_next, .ref aM_trace, .int M_traced])), (aM_beside, .inl (cI, 8, .inl M_beside))]) ⟨hx, hb, hml, hown, hts⟩ (c_X7_farOf l dC dI cI cJ cZ cA aM aM_lane aM_many aM_item aM_beside aM_round aM_reads aM_tape aM_fewest aM_may aM_then aM_cases aM_next aM_trace M_thrown M_status M_posts M_rounds M_read M_taped M_latest M_length M_at M_sort M_from M_till M_fault M_faultAt M_traced M_beside x1 x3 r505 e506) (cwV 2 hts gX7_widthOf_X7_farOf rfl rfl rfl (by decide +kernel) ⟨Nat.le_of_ble_eq_true rfl, Nat.le_of_ble_eq_true rfl⟩) hK hP hD hS hA [0, 1] [] [0, 1] 0 rfl rfl rfl rfl (by decide) rfl rfl rfl rfl rfl rfl hl.1 rfl (Nat.le_of_ble_eq_true rfl) dX7_widthOf_25 ⟨Nat.zero_le _, Nat.zero_le _⟩ (fun H locs hP hD hS => ?_)
          refine lv_goto (tgt := 32) hx hb dX7_widthOf_28 (by decide) ?_
          refine lv_istore_n (lv' := [(2, .int r505), (0, .ref aM), (1, .int x1), (3, .int x3)]) hx hb dX7_widthOf_32 rfl hl (by decide) rfl (fun ls hl => ?_)
          refine lv_iinc (v := x3 + 1) (lv' := [(3, .int (x3 + 1)), (2, .int r505), (0, .ref aM), (1, .int x1)]) hx hb dX7_widthOf_33 hl (k := 3) rfl rfl (by decide) rfl (fun ls hl => ?_)
          refine lv_goto (tgt := 4) hx hb dX7_widthOf_36 (by decide) ?_
          exact ih4 x1 r505 (x3 + 1) _ _ _ h hP hD hS (lv_sub hl [2, 3, 1, 0] rfl)
  unfold fX7_widthOf at h
  refine lv_iconst (v := 0) hx hb dX7_widthOf_0 (by decide) ?_
  refine lv_istore_n (lv' := [(2, .int 0), (0, .ref aM), (1, .int p0)]) hx hb dX7_widthOf_1 rfl hl (by decide) rfl (fun ls hl => ?_)
  refine lv_iconst (v := 0) hx hb dX7_widthOf_2 (by decide) ?_
  refine lv_istore_n (lv' := [(3, .int 0), (2, .int 0), (0, .ref aM), (1, .int p0)]) hx hb dX7_widthOf_3 rfl hl (by decide) rfl (fun ls hl => ?_)
  exact hC4 FU p0 0 0 _ _ _ h hP hD hS (lv_sub hl [2, 3, 1, 0] rfl)
set_option maxHeartbeats 4000000 in
set_option maxRecDepth 100000 in
theorem c_X7_far (l : Launch) (dC : Nat → ClassId) (dI : Nat → Nat → Nat) (cI cJ cZ cA : ClassId) (aM aM_lane aM_many aM_item aM_beside aM_round aM_reads aM_tape aM_fewest aM_may aM_then aM_cases aM_next aM_trace : Nat) (M_thrown : Int32) (M_status : Int32) (M_posts : Int32) (M_rounds : Int32) (M_read : Int32) (M_taped : Int32) (M_latest : Int32) (M_length : Int32) (M_at : Int32) (M_sort : Int32) (M_from : Int32) (M_till : Int32) (M_fault : Int32) (M_faultAt : Int32) (M_traced : Int32) (M_beside : Nat → Int32) (p0 : Int32) (p1 : Int32) (rr : Int32) (M_thrown_z : Int32) (h : fX7_far M_thrown M_posts M_beside p0 p1 = some (rr, M_thrown_z)) : Cti l yX7_far wsX7_far rmX7_far (dC, dI) (tyL cI cJ cZ cA) [(aM, .inr (7, [.int M_thrown, .int M_status, .ref aM_lane, .ref aM_many, .ref aM_item, .int M_posts, .ref aM_beside, .int M_rounds, .ref aM_round, .int M_read, .ref aM_reads, .ref aM_tape, .int M_taped, .int M_latest, .int M_length, .int M_at, .int M_sort, .int M_from, .int M_till, .int M_fault, .int M_faultAt, .ref aM_fewest, .ref aM_may, .ref aM_then, .ref aM_cases, .ref aM_next, .ref aM_trace, .int M_traced])), (aM_beside, .inl (cI, 8, .inl M_beside))] [(aM, .inr (7, [.int M_thrown_z, .int M_status, .ref aM_lane, .ref aM_many, .ref aM_item, .int M_posts, .ref aM_beside, .int M_rounds, .ref aM_round, .int M_read, .ref aM_reads, .ref aM_tape, .int M_taped, .int M_latest, .int M_length, .int M_at, .int M_sort, .int M_from, .int M_till, .int M_fault, .int M_faultAt, .ref aM_fewest, .ref aM_may, .ref aM_then, .ref aM_cases, .ref aM_next, .ref aM_trace, .int M_traced])), (aM_beside, .inl (cI, 8, .inl M_beside))] [.ref aM, .int p0, .int p1] rr := by
  refine ct_int (ty := .int) (cc := cX7_far) (maxL := 3) (by decide) rfl (Nat.le_of_ble_eq_true rfl) ?_
  intro p e s m args below meth c A Q ls hx hb hml hown hts hA hK hP hD hS hl hret
  have hl : lv_has ls 3 [(0, .ref aM), (1, .int p0), (2, .int p1)] := hl
  have k_0 := hts (.fieldLink RX7 51 "BeepNetModel" "thrown" "I") (by decide +kernel)
  have k_1 := hts (.constant RX7 71 (-1000001)) (by decide +kernel)
  have hiX7 : ∀ w ∈ u_ws RX7 TX7 28, w ∈ wsX7_far := fun w hw => List.mem_cons_of_mem _ (List.mem_append_right _ hw)
  unfold fX7_far at h
  refine lv_aload_n hx hb dX7_far_0 rfl (lv_at hl 0 rfl) ?_
  refine lv_iconst (v := 0) hx hb dX7_far_1 (by decide) ?_
  refine ka_put (w1 := [(aM, .inr (7, [.int 0, .int M_status, .ref aM_lane, .ref aM_many, .ref aM_item, .int M_posts, .ref aM_beside, .int M_rounds, .ref aM_round, .int M_read, .ref aM_reads, .ref aM_tape, .int M_taped, .int M_latest, .int M_length, .int M_at, .int M_sort, .int M_from, .int M_till, .int M_fault, .int M_faultAt, .ref aM_fewest, .ref aM_may, .ref aM_then, .ref aM_cases, .ref aM_next, .ref aM_trace, .int M_traced])), (aM_beside, .inl (cI, 8, .inl M_beside))]) (C := RX7) (T := TX7) (Nf := 28) (ref := "BeepNetModel") hx hb hts hiX7 tyX7 tyX7_ok nmX7 hown hK hP hD hS 0 rfl rfl 0 (by decide) k_0 rfl rfl rfl (Nat.le_of_ble_eq_true rfl) dX7_far_2 rfl (fun H locs hP hD hS => ?_)
  refine lv_aload_n hx hb dX7_far_5 rfl (lv_at hl 0 rfl) ?_
  refine lv_iload_n hx hb dX7_far_6 rfl (lv_at hl 1 rfl) ?_
  obtain ⟨r1, e2, h⟩ := bd1_s h
  refine kc_vi (rest := []) (wr := [(aM_beside, .inl (cI, 8, .inl M_beside))]) (wF := [(aM, .inr (7, [.int 0, .int M_status, .ref aM_lane, .ref aM_many, .ref aM_item, .int M_posts, .ref aM_beside, .int M_rounds, .ref aM_round, .int M_read, .ref aM_reads, .ref aM_tape, .int M_taped, .int M_latest, .int M_length, .int M_at, .int M_sort, .int M_from, .int M_till, .int M_fault, .int M_faultAt, .ref aM_fewest, .ref aM_may, .ref aM_then, .ref aM_cases, .ref aM_next, .ref aM_trace, .int M_traced])), (aM_beside, .inl (cI, 8, .inl M_beside))]) ⟨hx, hb, hml, hown, hts⟩ (c_X7_isPost l dC dI cI cJ cZ cA aM aM_lane aM_many aM_item aM_beside aM_round aM_reads aM_tape aM_fewest aM_may aM_then aM_cases aM_next aM_trace 0 M_status M_posts M_rounds M_read M_taped M_latest M_length M_at M_sort M_from M_till M_fault M_faultAt M_traced p0 r1 e2) (cwV 1 hts gX7_far_X7_isPost rfl rfl rfl (by decide +kernel) ⟨Nat.le_of_ble_eq_true rfl, Nat.le_of_ble_eq_true rfl⟩) hK hP hD hS hA [0] [1] [1, 0] 0 rfl rfl rfl rfl (by decide) rfl rfl rfl rfl rfl rfl hl.1 rfl (Nat.le_of_ble_eq_true rfl) dX7_far_7 ⟨Nat.zero_le _, Nat.zero_le _⟩ (fun H locs hP hD hS => ?_)
  refine lv_if_eq (tgt := 21) hx hb dX7_far_10 (by decide) (fun c3 => ?_) (fun c3 => ?_)
  · have h := ift c3 h
    refine lv_ldc hx hb hown k_1 dX7_far_21 ?_
    refine lv_goto (tgt := 32) hx hb dX7_far_23 (by decide) ?_
    obtain ⟨rfl, rfl⟩ := sj2 h
    exact hret _ _ _ _ _ rfl rfl hP hD hS dX7_far_32
  · have h := ifn c3 h
    refine lv_aload_n hx hb dX7_far_13 rfl (lv_at hl 0 rfl) ?_
    refine lv_iload_n hx hb dX7_far_14 rfl (lv_at hl 2 rfl) ?_
    obtain ⟨r4, e5, h⟩ := bd1_s h
    refine kc_vi (rest := []) (wr := [(aM_beside, .inl (cI, 8, .inl M_beside))]) (wF := [(aM, .inr (7, [.int 0, .int M_status, .ref aM_lane, .ref aM_many, .ref aM_item, .int M_posts, .ref aM_beside, .int M_rounds, .ref aM_round, .int M_read, .ref aM_reads, .ref aM_tape, .int M_taped, .int M_latest, .int M_length, .int M_at, .int M_sort, .int M_from, .int M_till, .int M_fault, .int M_faultAt, .ref aM_fewest, .ref aM_may, .ref aM_then, .ref aM_cases, .ref aM_next, .ref aM_trace, .int M_traced])), (aM_beside, .inl (cI, 8, .inl M_beside))]) ⟨hx, hb, hml, hown, hts⟩ (c_X7_isPost l dC dI cI cJ cZ cA aM aM_lane aM_many aM_item aM_beside aM_round aM_reads aM_tape aM_fewest aM_may aM_then aM_cases aM_next aM_trace 0 M_status M_posts M_rounds M_read M_taped M_latest M_length M_at M_sort M_from M_till M_fault M_faultAt M_traced p1 r4 e5) (cwV 1 hts gX7_far_X7_isPost rfl rfl rfl (by decide +kernel) ⟨Nat.le_of_ble_eq_true rfl, Nat.le_of_ble_eq_true rfl⟩) hK hP hD hS hA [0] [1] [1, 0] 0 rfl rfl rfl rfl (by decide) rfl rfl rfl rfl rfl rfl hl.1 rfl (Nat.le_of_ble_eq_true rfl) dX7_far_15 ⟨Nat.zero_le _, Nat.zero_le _⟩ (fun H locs hP hD hS => ?_)
    refine lv_if_ne (tgt := 26) hx hb dX7_far_18 (by decide) (fun c6 => ?_) (fun c6 => ?_)
    · have h := ifn c6 h
      refine lv_aload_n hx hb dX7_far_26 rfl (lv_at hl 0 rfl) ?_
      refine lv_iload_n hx hb dX7_far_27 rfl (lv_at hl 1 rfl) ?_
      refine lv_iload_n hx hb dX7_far_28 rfl (lv_at hl 2 rfl) ?_
      obtain ⟨r7, e8, h⟩ := bd1_s h
      refine kc_vi (rest := []) (wr := []) (wF := [(aM, .inr (7, [.int 0, .int M_status, .ref aM_lane, .ref aM_many, .ref aM_item, .int M_posts, .ref aM_beside, .int M_rounds, .ref aM_round, .int M_read, .ref aM_reads, .ref aM_tape, .int M_taped, .int M_latest, .int M_length, .int M_at, .int M_sort, .int M_from, .int M_till, .int M_fault, .int M_faultAt, .ref aM_fewest, .ref aM_may, .ref aM_then, .ref aM_cases, .ref aM_next, .ref aM_trace, .int M_traced])), (aM_beside, .inl (cI, 8, .inl M_beside))]) ⟨hx, hb, hml, hown, hts⟩ (c_X7_farOf l dC dI cI cJ cZ cA aM aM_lane aM_many aM_item aM_beside aM_round aM_reads aM_tape aM_fewest aM_may aM_then aM_cases aM_next aM_trace 0 M_status M_posts M_rounds M_read M_taped M_latest M_length M_at M_sort M_from M_till M_fault M_faultAt M_traced M_beside p0 p1 r7 e8) (cwV 2 hts gX7_far_X7_farOf rfl rfl rfl (by decide +kernel) ⟨Nat.le_of_ble_eq_true rfl, Nat.le_of_ble_eq_true rfl⟩) hK hP hD hS hA [0, 1] [] [0, 1] 0 rfl rfl rfl rfl (by decide) rfl rfl rfl rfl rfl rfl hl.1 rfl (Nat.le_of_ble_eq_true rfl) dX7_far_29 ⟨Nat.zero_le _, Nat.zero_le _⟩ (fun H locs hP hD hS => ?_)
      obtain ⟨rfl, rfl⟩ := sj2 h
      exact hret _ _ _ _ _ rfl rfl hP hD hS dX7_far_32
    · have h := ift c6 h
      refine lv_ldc hx hb hown k_1 dX7_far_21 ?_
      refine lv_goto (tgt := 32) hx hb dX7_far_23 (by decide) ?_
      obtain ⟨rfl, rfl⟩ := sj2 h
      exact hret _ _ _ _ _ rfl rfl hP hD hS dX7_far_32
set_option maxHeartbeats 4000000 in
set_option maxRecDepth 100000 in
theorem c_X7_told (l : Launch) (dC : Nat → ClassId) (dI : Nat → Nat → Nat) (cI cJ cZ cA : ClassId) (aM aM_lane aM_many aM_item aM_beside aM_round aM_reads aM_tape aM_fewest aM_may aM_then aM_cases aM_next aM_trace : Nat) (M_thrown : Int32) (M_status : Int32) (M_posts : Int32) (M_rounds : Int32) (M_read : Int32) (M_taped : Int32) (M_latest : Int32) (M_length : Int32) (M_at : Int32) (M_sort : Int32) (M_from : Int32) (M_till : Int32) (M_fault : Int32) (M_faultAt : Int32) (M_traced : Int32) (M_beside : Nat → Int32) (p0 : Int32) (p1 : Int32) (rr : Int32) (M_thrown_z : Int32) (h : fX7_told M_thrown M_posts M_beside p0 p1 = some (rr, M_thrown_z)) : Cti l yX7_told wsX7_told rmX7_told (dC, dI) (tyL cI cJ cZ cA) [(aM, .inr (7, [.int M_thrown, .int M_status, .ref aM_lane, .ref aM_many, .ref aM_item, .int M_posts, .ref aM_beside, .int M_rounds, .ref aM_round, .int M_read, .ref aM_reads, .ref aM_tape, .int M_taped, .int M_latest, .int M_length, .int M_at, .int M_sort, .int M_from, .int M_till, .int M_fault, .int M_faultAt, .ref aM_fewest, .ref aM_may, .ref aM_then, .ref aM_cases, .ref aM_next, .ref aM_trace, .int M_traced])), (aM_beside, .inl (cI, 8, .inl M_beside))] [(aM, .inr (7, [.int M_thrown_z, .int M_status, .ref aM_lane, .ref aM_many, .ref aM_item, .int M_posts, .ref aM_beside, .int M_rounds, .ref aM_round, .int M_read, .ref aM_reads, .ref aM_tape, .int M_taped, .int M_latest, .int M_length, .int M_at, .int M_sort, .int M_from, .int M_till, .int M_fault, .int M_faultAt, .ref aM_fewest, .ref aM_may, .ref aM_then, .ref aM_cases, .ref aM_next, .ref aM_trace, .int M_traced])), (aM_beside, .inl (cI, 8, .inl M_beside))] [.ref aM, .int p0, .int p1] rr := by
  refine ct_int (ty := .int) (cc := cX7_told) (maxL := 3) (by decide) rfl (Nat.le_of_ble_eq_true rfl) ?_
  intro p e s m args below meth c A Q ls hx hb hml hown hts hA hK hP hD hS hl hret
  have hl : lv_has ls 3 [(0, .ref aM), (1, .int p0), (2, .int p1)] := hl
  have k_0 := hts (.fieldLink RX7 51 "BeepNetModel" "thrown" "I") (by decide +kernel)
  have k_1 := hts (.constant RX7 71 (-1000001)) (by decide +kernel)
  have k_2 := hts (.constantLong RX7 91 (3)) (by decide +kernel)
  have k_3 := hts (.fieldLink RX7 19 "BeepNetModel" "beside" "[I") (by decide +kernel)
  have hiX7 : ∀ w ∈ u_ws RX7 TX7 28, w ∈ wsX7_told := fun w hw => List.mem_cons_of_mem _ (List.mem_append_right _ hw)
  unfold fX7_told at h
  refine lv_aload_n hx hb dX7_told_0 rfl (lv_at hl 0 rfl) ?_
  refine lv_iconst (v := 0) hx hb dX7_told_1 (by decide) ?_
  refine ka_put (w1 := [(aM, .inr (7, [.int 0, .int M_status, .ref aM_lane, .ref aM_many, .ref aM_item, .int M_posts, .ref aM_beside, .int M_rounds, .ref aM_round, .int M_read, .ref aM_reads, .ref aM_tape, .int M_taped, .int M_latest, .int M_length, .int M_at, .int M_sort, .int M_from, .int M_till, .int M_fault, .int M_faultAt, .ref aM_fewest, .ref aM_may, .ref aM_then, .ref aM_cases, .ref aM_next, .ref aM_trace, .int M_traced])), (aM_beside, .inl (cI, 8, .inl M_beside))]) (C := RX7) (T := TX7) (Nf := 28) (ref := "BeepNetModel") hx hb hts hiX7 tyX7 tyX7_ok nmX7 hown hK hP hD hS 0 rfl rfl 0 (by decide) k_0 rfl rfl rfl (Nat.le_of_ble_eq_true rfl) dX7_told_2 rfl (fun H locs hP hD hS => ?_)
  refine lv_aload_n hx hb dX7_told_5 rfl (lv_at hl 0 rfl) ?_
  refine lv_iload_n hx hb dX7_told_6 rfl (lv_at hl 1 rfl) ?_
  obtain ⟨r1, e2, h⟩ := bd1_s h
  refine kc_vi (rest := []) (wr := [(aM_beside, .inl (cI, 8, .inl M_beside))]) (wF := [(aM, .inr (7, [.int 0, .int M_status, .ref aM_lane, .ref aM_many, .ref aM_item, .int M_posts, .ref aM_beside, .int M_rounds, .ref aM_round, .int M_read, .ref aM_reads, .ref aM_tape, .int M_taped, .int M_latest, .int M_length, .int M_at, .int M_sort, .int M_from, .int M_till, .int M_fault, .int M_faultAt, .ref aM_fewest, .ref aM_may, .ref aM_then, .ref aM_cases, .ref aM_next, .ref aM_trace, .int M_traced])), (aM_beside, .inl (cI, 8, .inl M_beside))]) ⟨hx, hb, hml, hown, hts⟩ (c_X7_isPost l dC dI cI cJ cZ cA aM aM_lane aM_many aM_item aM_beside aM_round aM_reads aM_tape aM_fewest aM_may aM_then aM_cases aM_next aM_trace 0 M_status M_posts M_rounds M_read M_taped M_latest M_length M_at M_sort M_from M_till M_fault M_faultAt M_traced p0 r1 e2) (cwV 1 hts gX7_told_X7_isPost rfl rfl rfl (by decide +kernel) ⟨Nat.le_of_ble_eq_true rfl, Nat.le_of_ble_eq_true rfl⟩) hK hP hD hS hA [0] [1] [1, 0] 0 rfl rfl rfl rfl (by decide) rfl rfl rfl rfl rfl rfl hl.1 rfl (Nat.le_of_ble_eq_true rfl) dX7_told_7 ⟨Nat.zero_le _, Nat.zero_le _⟩ (fun H locs hP hD hS => ?_)
  refine lv_if_eq (tgt := 25) hx hb dX7_told_10 (by decide) (fun c3 => ?_) (fun c3 => ?_)
  · have h := ift c3 h
    refine lv_ldc hx hb hown k_1 dX7_told_25 ?_
    obtain ⟨rfl, rfl⟩ := sj2 h
    exact hret _ _ _ _ _ rfl rfl hP hD hS dX7_told_27
  · have h := ifn c3 h
    refine lv_iload_n hx hb dX7_told_13 rfl (lv_at hl 2 rfl) ?_
    refine lv_i2l hx hb dX7_told_14 rfl ?_
    refine lv_lconst (v := 0) hx hb dX7_told_15 (by decide) ?_
    refine lv_ldc2 hx hb hown k_2 dX7_told_16 ?_
    obtain ⟨r4, e5, h⟩ := bd1_s h
    refine kc_si (rest := []) (wr := [(aM, .inr (7, [.int 0, .int M_status, .ref aM_lane, .ref aM_many, .ref aM_item, .int M_posts, .ref aM_beside, .int M_rounds, .ref aM_round, .int M_read, .ref aM_reads, .ref aM_tape, .int M_taped, .int M_latest, .int M_length, .int M_at, .int M_sort, .int M_from, .int M_till, .int M_fault, .int M_faultAt, .ref aM_fewest, .ref aM_may, .ref aM_then, .ref aM_cases, .ref aM_next, .ref aM_trace, .int M_traced])), (aM_beside, .inl (cI, 8, .inl M_beside))]) (wF := [(aM, .inr (7, [.int 0, .int M_status, .ref aM_lane, .ref aM_many, .ref aM_item, .int M_posts, .ref aM_beside, .int M_rounds, .ref aM_round, .int M_read, .ref aM_reads, .ref aM_tape, .int M_taped, .int M_latest, .int M_length, .int M_at, .int M_sort, .int M_from, .int M_till, .int M_fault, .int M_faultAt, .ref aM_fewest, .ref aM_may, .ref aM_then, .ref aM_cases, .ref aM_next, .ref aM_trace, .int M_traced])), (aM_beside, .inl (cI, 8, .inl M_beside))]) ⟨hx, hb, hml, hown, hts⟩ (c_X7_in l dC dI cI cJ cZ cA p1.toInt64 0 3 r4 e5) (va_cwS 3 hts gX7_told_X7_in rfl rfl rfl (by decide +kernel) ⟨Nat.le_of_ble_eq_true rfl, Nat.le_of_ble_eq_true rfl⟩) hK hP hD hS hA [] [0, 1] [0, 1] rfl rfl rfl rfl (by decide) rfl rfl rfl hl.1 rfl (Nat.le_of_ble_eq_true rfl) dX7_told_19 ⟨Nat.zero_le _, Nat.zero_le _⟩ (fun H locs hP hD hS => ?_)
    refine lv_if_ne (tgt := 28) hx hb dX7_told_22 (by decide) (fun c6 => ?_) (fun c6 => ?_)
    · have h := ifn c6 h
      refine lv_iload_n hx hb dX7_told_28 rfl (lv_at hl 2 rfl) ?_
      refine lv_if_ne (tgt := 44) hx hb dX7_told_29 (by decide) (fun c7 => ?_) (fun c7 => ?_)
      · have h := ifn c7 h
        refine lv_iload_n hx hb dX7_told_44 rfl (lv_at hl 2 rfl) ?_
        refine lv_iconst (v := 1) hx hb dX7_told_45 (by decide) ?_
        refine lv_icmp_ne (tgt := 58) hx hb dX7_told_46 (by decide) (fun c8 => ?_) (fun c8 => ?_)
        · have h := ifn c8 h
          refine lv_iload_n hx hb dX7_told_58 rfl (lv_at hl 2 rfl) ?_
          refine lv_iconst (v := 2) hx hb dX7_told_59 (by decide) ?_
          refine lv_icmp_ne (tgt := 71) hx hb dX7_told_60 (by decide) (fun c9 => ?_) (fun c9 => ?_)
          · have h := ifn c9 h
            refine lv_aload_n hx hb dX7_told_71 rfl (lv_at hl 0 rfl) ?_
            refine lv_iconst (v := 1) hx hb dX7_told_72 (by decide) ?_
            refine lv_iload_n hx hb dX7_told_73 rfl (lv_at hl 1 rfl) ?_
            refine lv_ishl hx hb dX7_told_74 ?_
            obtain ⟨r10, e11, h⟩ := bd1_s h
            refine kc_vi (rest := []) (wr := []) (wF := [(aM, .inr (7, [.int 0, .int M_status, .ref aM_lane, .ref aM_many, .ref aM_item, .int M_posts, .ref aM_beside, .int M_rounds, .ref aM_round, .int M_read, .ref aM_reads, .ref aM_tape, .int M_taped, .int M_latest, .int M_length, .int M_at, .int M_sort, .int M_from, .int M_till, .int M_fault, .int M_faultAt, .ref aM_fewest, .ref aM_may, .ref aM_then, .ref aM_cases, .ref aM_next, .ref aM_trace, .int M_traced])), (aM_beside, .inl (cI, 8, .inl M_beside))]) ⟨hx, hb, hml, hown, hts⟩ (c_X7_reach l dC dI cI cJ cZ cA aM aM_lane aM_many aM_item aM_beside aM_round aM_reads aM_tape aM_fewest aM_may aM_then aM_cases aM_next aM_trace 0 M_status M_posts M_rounds M_read M_taped M_latest M_length M_at M_sort M_from M_till M_fault M_faultAt M_traced M_beside ((1 : Int32) <<< (p0 &&& 31)) r10 e11) (cwV 1 hts gX7_told_X7_reach rfl rfl rfl (by decide +kernel) ⟨Nat.le_of_ble_eq_true rfl, Nat.le_of_ble_eq_true rfl⟩) hK hP hD hS hA [0, 1] [] [0, 1] 0 rfl rfl rfl rfl (by decide) rfl rfl rfl rfl rfl rfl hl.1 rfl (Nat.le_of_ble_eq_true rfl) dX7_told_75 ⟨Nat.zero_le _, Nat.zero_le _⟩ (fun H locs hP hD hS => ?_)
            obtain ⟨rfl, rfl⟩ := sj2 h
            exact hret _ _ _ _ _ rfl rfl hP hD hS dX7_told_78
          · have h := ift c9 h
            refine lv_aload_n hx hb dX7_told_63 rfl (lv_at hl 0 rfl) ?_
            refine lv_iload_n hx hb dX7_told_64 rfl (lv_at hl 1 rfl) ?_
            obtain ⟨r12, e13, h⟩ := bd1_s h
            refine kc_vi (rest := []) (wr := []) (wF := [(aM, .inr (7, [.int 0, .int M_status, .ref aM_lane, .ref aM_many, .ref aM_item, .int M_posts, .ref aM_beside, .int M_rounds, .ref aM_round, .int M_read, .ref aM_reads, .ref aM_tape, .int M_taped, .int M_latest, .int M_length, .int M_at, .int M_sort, .int M_from, .int M_till, .int M_fault, .int M_faultAt, .ref aM_fewest, .ref aM_may, .ref aM_then, .ref aM_cases, .ref aM_next, .ref aM_trace, .int M_traced])), (aM_beside, .inl (cI, 8, .inl M_beside))]) ⟨hx, hb, hml, hown, hts⟩ (c_X7_widthOf l dC dI cI cJ cZ cA aM aM_lane aM_many aM_item aM_beside aM_round aM_reads aM_tape aM_fewest aM_may aM_then aM_cases aM_next aM_trace 0 M_status M_posts M_rounds M_read M_taped M_latest M_length M_at M_sort M_from M_till M_fault M_faultAt M_traced M_beside p0 r12 e13) (cwV 1 hts gX7_told_X7_widthOf rfl rfl rfl (by decide +kernel) ⟨Nat.le_of_ble_eq_true rfl, Nat.le_of_ble_eq_true rfl⟩) hK hP hD hS hA [0, 1] [] [0, 1] 0 rfl rfl rfl rfl (by decide) rfl rfl rfl rfl rfl rfl hl.1 rfl (Nat.le_of_ble_eq_true rfl) dX7_told_65 ⟨Nat.zero_le _, Nat.zero_le _⟩ (fun H locs hP hD hS => ?_)
            refine lv_goto (tgt := 78) hx hb dX7_told_68 (by decide) ?_
            obtain ⟨rfl, rfl⟩ := sj2 h
            exact hret _ _ _ _ _ rfl rfl hP hD hS dX7_told_78
        · have h := ift c8 h
          refine lv_aload_n hx hb dX7_told_49 rfl (lv_at hl 0 rfl) ?_
          refine ka_get (v := .ref aM_beside) (C := RX7) (T := TX7) (Nf := 28) (ref := "BeepNetModel") hx hb hts hiX7 hown hK hP 0 rfl rfl 6 (by decide) k_3 rfl rfl dX7_told_50 ?_
          refine lv_iload_n hx hb dX7_told_53 rfl (lv_at hl 1 rfl) ?_
          obtain ⟨v14, ev14, hn15, h⟩ := ldx_s h
          refine ka_ild hx hb hK hP 1 0 ev14 rfl rfl hn15 dX7_told_54 ?_
          refine lv_goto (tgt := 78) hx hb dX7_told_55 (by decide) ?_
          obtain ⟨rfl, rfl⟩ := sj2 h
          exact hret _ _ _ _ _ rfl rfl hP hD hS dX7_told_78
      · have h := ift c7 h
        refine lv_aload_n hx hb dX7_told_32 rfl (lv_at hl 0 rfl) ?_
        refine ka_get (v := .ref aM_beside) (C := RX7) (T := TX7) (Nf := 28) (ref := "BeepNetModel") hx hb hts hiX7 hown hK hP 0 rfl rfl 6 (by decide) k_3 rfl rfl dX7_told_33 ?_
        refine lv_iload_n hx hb dX7_told_36 rfl (lv_at hl 1 rfl) ?_
        obtain ⟨v16, ev16, hn17, h⟩ := ldx_s h
        refine ka_ild hx hb hK hP 1 0 ev16 rfl rfl hn17 dX7_told_37 ?_
        obtain ⟨r18, e19, h⟩ := bd1_s h
        refine kc_si (rest := []) (wr := [(aM, .inr (7, [.int 0, .int M_status, .ref aM_lane, .ref aM_many, .ref aM_item, .int M_posts, .ref aM_beside, .int M_rounds, .ref aM_round, .int M_read, .ref aM_reads, .ref aM_tape, .int M_taped, .int M_latest, .int M_length, .int M_at, .int M_sort, .int M_from, .int M_till, .int M_fault, .int M_faultAt, .ref aM_fewest, .ref aM_may, .ref aM_then, .ref aM_cases, .ref aM_next, .ref aM_trace, .int M_traced])), (aM_beside, .inl (cI, 8, .inl M_beside))]) (wF := [(aM, .inr (7, [.int 0, .int M_status, .ref aM_lane, .ref aM_many, .ref aM_item, .int M_posts, .ref aM_beside, .int M_rounds, .ref aM_round, .int M_read, .ref aM_reads, .ref aM_tape, .int M_taped, .int M_latest, .int M_length, .int M_at, .int M_sort, .int M_from, .int M_till, .int M_fault, .int M_faultAt, .ref aM_fewest, .ref aM_may, .ref aM_then, .ref aM_cases, .ref aM_next, .ref aM_trace, .int M_traced])), (aM_beside, .inl (cI, 8, .inl M_beside))]) ⟨hx, hb, hml, hown, hts⟩ (c_X7_size l dC dI cI cJ cZ cA v16 r18 e19) (va_cwS 1 hts gX7_told_X7_size rfl rfl rfl (by decide +kernel) ⟨Nat.le_of_ble_eq_true rfl, Nat.le_of_ble_eq_true rfl⟩) hK hP hD hS hA [] [0, 1] [0, 1] rfl rfl rfl rfl (by decide) rfl rfl rfl hl.1 rfl (Nat.le_of_ble_eq_true rfl) dX7_told_38 ⟨Nat.zero_le _, Nat.zero_le _⟩ (fun H locs hP hD hS => ?_)
        refine lv_goto (tgt := 78) hx hb dX7_told_41 (by decide) ?_
        obtain ⟨rfl, rfl⟩ := sj2 h
        exact hret _ _ _ _ _ rfl rfl hP hD hS dX7_told_78
    · have h := ift c6 h
      refine lv_ldc hx hb hown k_1 dX7_told_25 ?_
      obtain ⟨rfl, rfl⟩ := sj2 h
      exact hret _ _ _ _ _ rfl rfl hP hD hS dX7_told_27
set_option maxHeartbeats 4000000 in
set_option maxRecDepth 100000 in
theorem c_X7_isHearing (l : Launch) (dC : Nat → ClassId) (dI : Nat → Nat → Nat) (cI cJ cZ cA : ClassId) (p0 : Int32) (rr : Int32) (h : fX7_isHearing p0 = some rr) : Cti l yX7_isHearing wsX7_isHearing rmX7_isHearing (dC, dI) (tyL cI cJ cZ cA) [] [] [.int p0] rr := by
  refine ct_int (ty := .boolean) (cc := cX7_isHearing) (maxL := 1) (by decide) rfl (Nat.le_of_ble_eq_true rfl) ?_
  intro p e s m args below meth c A Q ls hx hb hml hown hts hA hK hP hD hS hl hret
  have hl : lv_has ls 1 [(0, .int p0)] := hl
  unfold fX7_isHearing at h
  refine lv_iload_n hx hb dX7_isHearing_0 rfl (lv_at hl 0 rfl) ?_
  refine lv_i2l hx hb dX7_isHearing_1 rfl ?_
  refine lv_lconst (v := 0) hx hb dX7_isHearing_2 (by decide) ?_
  refine lv_lconst (v := 1) hx hb dX7_isHearing_3 (by decide) ?_
  obtain ⟨r1, e2, h⟩ := bd1_s h
  refine kc_si (rest := []) (wr := []) (wF := []) ⟨hx, hb, hml, hown, hts⟩ (c_X7_in l dC dI cI cJ cZ cA p0.toInt64 0 1 r1 e2) (va_cwS 3 hts gX7_isHearing_X7_in rfl rfl rfl (by decide +kernel) ⟨Nat.le_of_ble_eq_true rfl, Nat.le_of_ble_eq_true rfl⟩) hK hP hD hS hA [] [] [] rfl rfl rfl rfl (by decide) rfl rfl rfl hl.1 rfl (Nat.le_of_ble_eq_true rfl) dX7_isHearing_4 ⟨Nat.zero_le _, Nat.zero_le _⟩ (fun H locs hP hD hS => ?_)
  obtain ⟨hz3, h⟩ := zrx_s h
  obtain rfl := sj1 h
  exact hret _ _ _ _ _ rfl hz3 hP hD hS dX7_isHearing_7
set_option maxHeartbeats 4000000 in
set_option maxRecDepth 100000 in
theorem c_X7_isSet (l : Launch) (dC : Nat → ClassId) (dI : Nat → Nat → Nat) (cI cJ cZ cA : ClassId) (aM aM_lane aM_many aM_item aM_beside aM_round aM_reads aM_tape aM_fewest aM_may aM_then aM_cases aM_next aM_trace : Nat) (M_thrown : Int32) (M_status : Int32) (M_posts : Int32) (M_rounds : Int32) (M_read : Int32) (M_taped : Int32) (M_latest : Int32) (M_length : Int32) (M_at : Int32) (M_sort : Int32) (M_from : Int32) (M_till : Int32) (M_fault : Int32) (M_faultAt : Int32) (M_traced : Int32) (p0 : Int32) (rr : Int32) (h : fX7_isSet M_posts p0 = some rr) : Cti l yX7_isSet wsX7_isSet rmX7_isSet (dC, dI) (tyL cI cJ cZ cA) [(aM, .inr (7, [.int M_thrown, .int M_status, .ref aM_lane, .ref aM_many, .ref aM_item, .int M_posts, .ref aM_beside, .int M_rounds, .ref aM_round, .int M_read, .ref aM_reads, .ref aM_tape, .int M_taped, .int M_latest, .int M_length, .int M_at, .int M_sort, .int M_from, .int M_till, .int M_fault, .int M_faultAt, .ref aM_fewest, .ref aM_may, .ref aM_then, .ref aM_cases, .ref aM_next, .ref aM_trace, .int M_traced]))] [(aM, .inr (7, [.int M_thrown, .int M_status, .ref aM_lane, .ref aM_many, .ref aM_item, .int M_posts, .ref aM_beside, .int M_rounds, .ref aM_round, .int M_read, .ref aM_reads, .ref aM_tape, .int M_taped, .int M_latest, .int M_length, .int M_at, .int M_sort, .int M_from, .int M_till, .int M_fault, .int M_faultAt, .ref aM_fewest, .ref aM_may, .ref aM_then, .ref aM_cases, .ref aM_next, .ref aM_trace, .int M_traced]))] [.ref aM, .int p0] rr := by
  refine ct_int (ty := .boolean) (cc := cX7_isSet) (maxL := 2) (by decide) rfl (Nat.le_of_ble_eq_true rfl) ?_
  intro p e s m args below meth c A Q ls hx hb hml hown hts hA hK hP hD hS hl hret
  have hl : lv_has ls 2 [(0, .ref aM), (1, .int p0)] := hl
  unfold fX7_isSet at h
  refine lv_iload_n hx hb dX7_isSet_0 rfl (lv_at hl 1 rfl) ?_
  refine lv_i2l hx hb dX7_isSet_1 rfl ?_
  refine lv_lconst (v := 0) hx hb dX7_isSet_2 (by decide) ?_
  refine lv_aload_n hx hb dX7_isSet_3 rfl (lv_at hl 0 rfl) ?_
  obtain ⟨r1, e2, h⟩ := bd1_s h
  refine kc_vi (rest := [.long 0, .long p0.toInt64]) (wr := []) (wF := [(aM, .inr (7, [.int M_thrown, .int M_status, .ref aM_lane, .ref aM_many, .ref aM_item, .int M_posts, .ref aM_beside, .int M_rounds, .ref aM_round, .int M_read, .ref aM_reads, .ref aM_tape, .int M_taped, .int M_latest, .int M_length, .int M_at, .int M_sort, .int M_from, .int M_till, .int M_fault, .int M_faultAt, .ref aM_fewest, .ref aM_may, .ref aM_then, .ref aM_cases, .ref aM_next, .ref aM_trace, .int M_traced]))]) ⟨hx, hb, hml, hown, hts⟩ (c_X7_all l dC dI cI cJ cZ cA aM aM_lane aM_many aM_item aM_beside aM_round aM_reads aM_tape aM_fewest aM_may aM_then aM_cases aM_next aM_trace M_thrown M_status M_posts M_rounds M_read M_taped M_latest M_length M_at M_sort M_from M_till M_fault M_faultAt M_traced r1 e2) (cwV 0 hts gX7_isSet_X7_all rfl rfl rfl (by decide +kernel) ⟨Nat.le_of_ble_eq_true rfl, Nat.le_of_ble_eq_true rfl⟩) hK hP hD hS hA [0] [] [0] 0 rfl rfl rfl rfl (by decide) rfl rfl rfl rfl rfl rfl hl.1 rfl (Nat.le_of_ble_eq_true rfl) dX7_isSet_4 ⟨Nat.zero_le _, Nat.zero_le _⟩ (fun H locs hP hD hS => ?_)
  refine lv_i2l hx hb dX7_isSet_7 rfl ?_
  obtain ⟨r3, e4, h⟩ := bd1_s h
  refine kc_si (rest := []) (wr := [(aM, .inr (7, [.int M_thrown, .int M_status, .ref aM_lane, .ref aM_many, .ref aM_item, .int M_posts, .ref aM_beside, .int M_rounds, .ref aM_round, .int M_read, .ref aM_reads, .ref aM_tape, .int M_taped, .int M_latest, .int M_length, .int M_at, .int M_sort, .int M_from, .int M_till, .int M_fault, .int M_faultAt, .ref aM_fewest, .ref aM_may, .ref aM_then, .ref aM_cases, .ref aM_next, .ref aM_trace, .int M_traced]))]) (wF := [(aM, .inr (7, [.int M_thrown, .int M_status, .ref aM_lane, .ref aM_many, .ref aM_item, .int M_posts, .ref aM_beside, .int M_rounds, .ref aM_round, .int M_read, .ref aM_reads, .ref aM_tape, .int M_taped, .int M_latest, .int M_length, .int M_at, .int M_sort, .int M_from, .int M_till, .int M_fault, .int M_faultAt, .ref aM_fewest, .ref aM_may, .ref aM_then, .ref aM_cases, .ref aM_next, .ref aM_trace, .int M_traced]))]) ⟨hx, hb, hml, hown, hts⟩ (c_X7_in l dC dI cI cJ cZ cA p0.toInt64 0 r1.toInt64 r3 e4) (va_cwS 3 hts gX7_isSet_X7_in rfl rfl rfl (by decide +kernel) ⟨Nat.le_of_ble_eq_true rfl, Nat.le_of_ble_eq_true rfl⟩) hK hP hD hS hA [] [0] [0] rfl rfl rfl rfl (by decide) rfl rfl rfl hl.1 rfl (Nat.le_of_ble_eq_true rfl) dX7_isSet_8 ⟨Nat.zero_le _, Nat.zero_le _⟩ (fun H locs hP hD hS => ?_)
  obtain ⟨hz5, h⟩ := zrx_s h
  obtain rfl := sj1 h
  exact hret _ _ _ _ _ rfl hz5 hP hD hS dX7_isSet_11
set_option maxHeartbeats 4000000 in
set_option maxRecDepth 100000 in
theorem c_X7_hearing (l : Launch) (dC : Nat → ClassId) (dI : Nat → Nat → Nat) (cI cJ cZ cA : ClassId) (aM aM_lane aM_many aM_item aM_beside aM_round aM_reads aM_tape aM_fewest aM_may aM_then aM_cases aM_next aM_trace : Nat) (M_thrown : Int32) (M_status : Int32) (M_posts : Int32) (M_rounds : Int32) (M_read : Int32) (M_taped : Int32) (M_latest : Int32) (M_length : Int32) (M_at : Int32) (M_sort : Int32) (M_from : Int32) (M_till : Int32) (M_fault : Int32) (M_faultAt : Int32) (M_traced : Int32) (M_beside : Nat → Int32) (p0 : Int32) (p1 : Int32) (rr : Int32) (h : fX7_hearing M_posts M_beside p0 p1 = some rr) : Cti l yX7_hearing wsX7_hearing rmX7_hearing (dC, dI) (tyL cI cJ cZ cA) [(aM, .inr (7, [.int M_thrown, .int M_status, .ref aM_lane, .ref aM_many, .ref aM_item, .int M_posts, .ref aM_beside, .int M_rounds, .ref aM_round, .int M_read, .ref aM_reads, .ref aM_tape, .int M_taped, .int M_latest, .int M_length, .int M_at, .int M_sort, .int M_from, .int M_till, .int M_fault, .int M_faultAt, .ref aM_fewest, .ref aM_may, .ref aM_then, .ref aM_cases, .ref aM_next, .ref aM_trace, .int M_traced])), (aM_beside, .inl (cI, 8, .inl M_beside))] [(aM, .inr (7, [.int M_thrown, .int M_status, .ref aM_lane, .ref aM_many, .ref aM_item, .int M_posts, .ref aM_beside, .int M_rounds, .ref aM_round, .int M_read, .ref aM_reads, .ref aM_tape, .int M_taped, .int M_latest, .int M_length, .int M_at, .int M_sort, .int M_from, .int M_till, .int M_fault, .int M_faultAt, .ref aM_fewest, .ref aM_may, .ref aM_then, .ref aM_cases, .ref aM_next, .ref aM_trace, .int M_traced])), (aM_beside, .inl (cI, 8, .inl M_beside))] [.ref aM, .int p0, .int p1] rr := by
  refine ct_int (ty := .int) (cc := cX7_hearing) (maxL := 6) (by decide) rfl (Nat.le_of_ble_eq_true rfl) ?_
  intro p e s m args below meth c A Q ls hx hb hml hown hts hA hK hP hD hS hl hret
  have hl : lv_has ls 6 [(0, .ref aM), (1, .int p0), (2, .int p1)] := hl
  have k_0 := hts (.fieldLink RX7 76 "BeepNetModel" "posts" "I") (by decide +kernel)
  have k_1 := hts (.fieldLink RX7 19 "BeepNetModel" "beside" "[I") (by decide +kernel)
  have hiX7 : ∀ w ∈ u_ws RX7 TX7 28, w ∈ wsX7_hearing := fun w hw => List.mem_cons_of_mem _ (List.mem_append_right _ hw)
  have hC5 : ∀ (n : Nat) (x1 : Int32) (x2 : Int32) (x3 : Int32) (x4 : Int32) (H : Heap) (locs : List Loc) (ls : Array Slot), fX7_hearing_c5 M_posts M_beside n x1 x2 x3 x4 = some rr → va_P (dC, dI) vwCl [(aM, .inr (7, [.int M_thrown, .int M_status, .ref aM_lane, .ref aM_many, .ref aM_item, .int M_posts, .ref aM_beside, .int M_rounds, .ref aM_round, .int M_read, .ref aM_reads, .ref aM_tape, .int M_taped, .int M_latest, .int M_length, .int M_at, .int M_sort, .int M_from, .int M_till, .int M_fault, .int M_faultAt, .ref aM_fewest, .ref aM_may, .ref aM_then, .ref aM_cases, .ref aM_next, .ref aM_trace, .int M_traced])), (aM_beside, .inl (cI, 8, .inl M_beside))] H → va_D A [(aM, .inr (7, [.int M_thrown, .int M_status, .ref aM_lane, .ref aM_many, .ref aM_item, .int M_posts, .ref aM_beside, .int M_rounds, .ref aM_round, .int M_read, .ref aM_reads, .ref aM_tape, .int M_taped, .int M_latest, .int M_length, .int M_at, .int M_sort, .int M_from, .int M_till, .int M_fault, .int M_faultAt, .ref aM_fewest, .ref aM_may, .ref aM_then, .ref aM_cases, .ref aM_next, .ref aM_trace, .int M_traced])), (aM_beside, .inl (cI, 8, .inl M_beside))] → va_S A s.heap H locs → lv_has ls 6 [(0, .ref aM), (1, .int x1), (2, .int x2), (3, .int x3), (4, .int x4)] → W p l e rmX7_hearing s m args below meth c H locs 0 0 Q (F0 m 5 ls []) := by
    intro n
    induction n with
    | zero => intro x1 x2 x3 x4 H locs ls h; rw [fX7_hearing_c5] at h; cases h
    | succ n5 ih5 =>
      have hC56 : ∀ (x1 : Int32) (x2 : Int32) (x4 : Int32) (t0 : Int32) (H : Heap) (locs : List Loc) (ls : Array Slot), fX7_hearing_c56 M_posts M_beside (fX7_hearing_c5 M_posts M_beside n5) x1 x2 x4 t0 = some rr → va_P (dC, dI) vwCl [(aM, .inr (7, [.int M_thrown, .int M_status, .ref aM_lane, .ref aM_many, .ref aM_item, .int M_posts, .ref aM_beside, .int M_rounds, .ref aM_round, .int M_read, .ref aM_reads, .ref aM_tape, .int M_taped, .int M_latest, .int M_length, .int M_at, .int M_sort, .int M_from, .int M_till, .int M_fault, .int M_faultAt, .ref aM_fewest, .ref aM_may, .ref aM_then, .ref aM_cases, .ref aM_next, .ref aM_trace, .int M_traced])), (aM_beside, .inl (cI, 8, .inl M_beside))] H → va_D A [(aM, .inr (7, [.int M_thrown, .int M_status, .ref aM_lane, .ref aM_many, .ref aM_item, .int M_posts, .ref aM_beside, .int M_rounds, .ref aM_round, .int M_read, .ref aM_reads, .ref aM_tape, .int M_taped, .int M_latest, .int M_length, .int M_at, .int M_sort, .int M_from, .int M_till, .int M_fault, .int M_faultAt, .ref aM_fewest, .ref aM_may, .ref aM_then, .ref aM_cases, .ref aM_next, .ref aM_trace, .int M_traced])), (aM_beside, .inl (cI, 8, .inl M_beside))] → va_S A s.heap H locs → lv_has ls 6 [(0, .ref aM), (1, .int x1), (2, .int x2), (4, .int x4)] → W p l e rmX7_hearing s m args below meth c H locs 0 0 Q (F0 m 56 ls [.int t0]) := by
        intro x1 x2 x4 t0 H locs ls h hP hD hS hl
        unfold fX7_hearing_c56 at h
        refine lv_iconst (v := 1) hx hb dX7_hearing_56 (by decide) ?_
        refine lv_iload hx hb dX7_hearing_57 (lv_at hl 3 rfl) ?_
        refine lv_ishl hx hb dX7_hearing_59 ?_
        refine lv_goto (tgt := 64) hx hb dX7_hearing_60 (by decide) ?_
        refine lv_ior hx hb dX7_hearing_64 ?_
        obtain ⟨v5701, ev5701, h⟩ := bnd_s h
        refine kn_i ev5701 ?_
        refine lv_istore_n (lv' := [(3, .int v5701), (0, .ref aM), (1, .int x1), (2, .int x2), (4, .int x4)]) hx hb dX7_hearing_65 rfl hl (by decide) rfl (fun ls hl => ?_)
        refine lv_iinc (v := x4 + 1) (lv' := [(4, .int (x4 + 1)), (3, .int v5701), (0, .ref aM), (1, .int x1), (2, .int x2)]) hx hb dX7_hearing_66 hl (k := 4) rfl rfl (by decide) rfl (fun ls hl => ?_)
        refine lv_goto (tgt := 5) hx hb dX7_hearing_69 (by decide) ?_
        exact ih5 x1 x2 v5701 (x4 + 1) _ _ _ h hP hD hS (lv_sub hl [2, 3, 4, 1, 0] rfl)
      have hC63 : ∀ (x1 : Int32) (x2 : Int32) (x4 : Int32) (t0 : Int32) (H : Heap) (locs : List Loc) (ls : Array Slot), fX7_hearing_c63 M_posts M_beside (fX7_hearing_c5 M_posts M_beside n5) x1 x2 x4 t0 = some rr → va_P (dC, dI) vwCl [(aM, .inr (7, [.int M_thrown, .int M_status, .ref aM_lane, .ref aM_many, .ref aM_item, .int M_posts, .ref aM_beside, .int M_rounds, .ref aM_round, .int M_read, .ref aM_reads, .ref aM_tape, .int M_taped, .int M_latest, .int M_length, .int M_at, .int M_sort, .int M_from, .int M_till, .int M_fault, .int M_faultAt, .ref aM_fewest, .ref aM_may, .ref aM_then, .ref aM_cases, .ref aM_next, .ref aM_trace, .int M_traced])), (aM_beside, .inl (cI, 8, .inl M_beside))] H → va_D A [(aM, .inr (7, [.int M_thrown, .int M_status, .ref aM_lane, .ref aM_many, .ref aM_item, .int M_posts, .ref aM_beside, .int M_rounds, .ref aM_round, .int M_read, .ref aM_reads, .ref aM_tape, .int M_taped, .int M_latest, .int M_length, .int M_at, .int M_sort, .int M_from, .int M_till, .int M_fault, .int M_faultAt, .ref aM_fewest, .ref aM_may, .ref aM_then, .ref aM_cases, .ref aM_next, .ref aM_trace, .int M_traced])), (aM_beside, .inl (cI, 8, .inl M_beside))] → va_S A s.heap H locs → lv_has ls 6 [(0, .ref aM), (1, .int x1), (2, .int x2), (4, .int x4)] → W p l e rmX7_hearing s m args below meth c H locs 0 0 Q (F0 m 63 ls [.int t0]) := by
        intro x1 x2 x4 t0 H locs ls h hP hD hS hl
        unfold fX7_hearing_c63 at h
        refine lv_iconst (v := 0) hx hb dX7_hearing_63 (by decide) ?_
        refine lv_ior hx hb dX7_hearing_64 ?_
        refine lv_istore_n (lv' := [(3, .int (t0 ||| (0 : Int32))), (0, .ref aM), (1, .int x1), (2, .int x2), (4, .int x4)]) hx hb dX7_hearing_65 rfl hl (by decide) rfl (fun ls hl => ?_)
        refine lv_iinc (v := x4 + 1) (lv' := [(4, .int (x4 + 1)), (3, .int (t0 ||| (0 : Int32))), (0, .ref aM), (1, .int x1), (2, .int x2)]) hx hb dX7_hearing_66 hl (k := 4) rfl rfl (by decide) rfl (fun ls hl => ?_)
        refine lv_goto (tgt := 5) hx hb dX7_hearing_69 (by decide) ?_
        exact ih5 x1 x2 (t0 ||| (0 : Int32)) (x4 + 1) _ _ _ h hP hD hS (lv_sub hl [2, 3, 4, 1, 0] rfl)
      intro x1 x2 x3 x4 H locs ls h hP hD hS hl
      rw [fX7_hearing_c5] at h
      refine lv_iload hx hb dX7_hearing_5 (lv_at hl 4 rfl) ?_
      refine lv_aload_n hx hb dX7_hearing_7 rfl (lv_at hl 0 rfl) ?_
      refine ka_get (v := .int M_posts) (C := RX7) (T := TX7) (Nf := 28) (ref := "BeepNetModel") hx hb hts hiX7 hown hK hP 0 rfl rfl 5 (by decide) k_0 rfl rfl dX7_hearing_8 ?_
      refine lv_icmp_ge (tgt := 72) hx hb dX7_hearing_11 (by decide) (fun c601 => ?_) (fun c601 => ?_)
      · have h := ift c601 h
        refine lv_iload_n hx hb dX7_hearing_72 rfl (lv_at hl 3 rfl) ?_
        obtain rfl := sj1 h
        exact hret _ _ _ _ _ rfl rfl hP hD hS dX7_hearing_73
      · have h := ifn c601 h
        refine lv_aload_n hx hb dX7_hearing_14 rfl (lv_at hl 0 rfl) ?_
        refine ka_get (v := .ref aM_beside) (C := RX7) (T := TX7) (Nf := 28) (ref := "BeepNetModel") hx hb hts hiX7 hown hK hP 0 rfl rfl 6 (by decide) k_1 rfl rfl dX7_hearing_15 ?_
        refine lv_iload hx hb dX7_hearing_18 (lv_at hl 4 rfl) ?_
        obtain ⟨v602, ev602, hn603, h⟩ := ldx_s h
        refine ka_ild hx hb hK hP 1 0 ev602 rfl rfl hn603 dX7_hearing_20 ?_
        refine lv_iload_n hx hb dX7_hearing_21 rfl (lv_at hl 2 rfl) ?_
        refine lv_iand hx hb dX7_hearing_22 ?_
        obtain ⟨r604, e605, h⟩ := bd1_s h
        refine kc_si (rest := []) (wr := [(aM, .inr (7, [.int M_thrown, .int M_status, .ref aM_lane, .ref aM_many, .ref aM_item, .int M_posts, .ref aM_beside, .int M_rounds, .ref aM_round, .int M_read, .ref aM_reads, .ref aM_tape, .int M_taped, .int M_latest, .int M_length, .int M_at, .int M_sort, .int M_from, .int M_till, .int M_fault, .int M_faultAt, .ref aM_fewest, .ref aM_may, .ref aM_then, .ref aM_cases, .ref aM_next, .ref aM_trace, .int M_traced])), (aM_beside, .inl (cI, 8, .inl M_beside))]) (wF := [(aM, .inr (7, [.int M_thrown, .int M_status, .ref aM_lane, .ref aM_many, .ref aM_item, .int M_posts, .ref aM_beside, .int M_rounds, .ref aM_round, .int M_read, .ref aM_reads, .ref aM_tape, .int M_taped, .int M_latest, .int M_length, .int M_at, .int M_sort, .int M_from, .int M_till, .int M_fault, .int M_faultAt, .ref aM_fewest, .ref aM_may, .ref aM_then, .ref aM_cases, .ref aM_next, .ref aM_trace, .int M_traced])), (aM_beside, .inl (cI, 8, .inl M_beside))]) ⟨hx, hb, hml, hown, hts⟩ (c_X7_size l dC dI cI cJ cZ cA (v602 &&& x2) r604 e605) (va_cwS 1 hts gX7_hearing_X7_size rfl rfl rfl (by decide +kernel) ⟨Nat.le_of_ble_eq_true rfl, Nat.le_of_ble_eq_true rfl⟩) hK hP hD hS hA [] [0, 1] [0, 1] rfl rfl rfl rfl (by decide) rfl rfl rfl hl.1 rfl (Nat.le_of_ble_eq_true rfl) dX7_hearing_23 ⟨Nat.zero_le _, Nat.zero_le _⟩ (fun H locs hP hD hS => ?_)
        refine lv_istore (lv' := [(5, .int r604), (0, .ref aM), (1, .int x1), (2, .int x2), (3, .int x3), (4, .int x4)]) hx hb dX7_hearing_26 hl (by decide) rfl (fun ls hl => ?_)
        refine lv_iload_n hx hb dX7_hearing_28 rfl (lv_at hl 4 rfl) ?_
        refine lv_iload_n hx hb dX7_hearing_29 rfl (lv_at hl 3 rfl) ?_
        refine lv_iload hx hb dX7_hearing_30 (lv_at hl 5 rfl) ?_
        refine lv_ishr hx hb dX7_hearing_32 ?_
        refine lv_iconst (v := 1) hx hb dX7_hearing_33 (by decide) ?_
        refine lv_iand hx hb dX7_hearing_34 ?_
        refine lv_if_ne (tgt := 63) hx hb dX7_hearing_35 (by decide) (fun c606 => ?_) (fun c606 => ?_)
        · have h := ifn c606 h
          exact hC63 x1 x2 x4 x3 _ _ _ h hP hD hS (lv_sub hl [1, 2, 3, 5] rfl)
        · have h := ift c606 h
          refine lv_iload_n hx hb dX7_hearing_38 rfl (lv_at hl 2 rfl) ?_
          refine lv_if_ne (tgt := 50) hx hb dX7_hearing_39 (by decide) (fun c607 => ?_) (fun c607 => ?_)
          · have h := ifn c607 h
            refine lv_iload hx hb dX7_hearing_50 (lv_at hl 0 rfl) ?_
            refine lv_iconst (v := 1) hx hb dX7_hearing_52 (by decide) ?_
            refine lv_icmp_ne (tgt := 63) hx hb dX7_hearing_53 (by decide) (fun c608 => ?_) (fun c608 => ?_)
            · have h := ifn c608 h
              exact hC63 x1 x2 x4 x3 _ _ _ h hP hD hS (lv_sub hl [1, 2, 3, 5] rfl)
            · have h := ift c608 h
              exact hC56 x1 x2 x4 x3 _ _ _ h hP hD hS (lv_sub hl [1, 2, 3, 5] rfl)
          · have h := ift c607 h
            refine lv_iload hx hb dX7_hearing_42 (lv_at hl 0 rfl) ?_
            refine lv_if_le (tgt := 63) hx hb dX7_hearing_44 (by decide) (fun c609 => ?_) (fun c609 => ?_)
            · have h := ift c609 h
              exact hC63 x1 x2 x4 x3 _ _ _ h hP hD hS (lv_sub hl [1, 2, 3, 5] rfl)
            · have h := ifn c609 h
              refine lv_goto (tgt := 56) hx hb dX7_hearing_47 (by decide) ?_
              exact hC56 x1 x2 x4 x3 _ _ _ h hP hD hS (lv_sub hl [1, 2, 3, 5] rfl)
  unfold fX7_hearing at h
  refine lv_iconst (v := 0) hx hb dX7_hearing_0 (by decide) ?_
  refine lv_istore_n (lv' := [(3, .int 0), (0, .ref aM), (1, .int p0), (2, .int p1)]) hx hb dX7_hearing_1 rfl hl (by decide) rfl (fun ls hl => ?_)
  refine lv_iconst (v := 0) hx hb dX7_hearing_2 (by decide) ?_
  refine lv_istore (lv' := [(4, .int 0), (3, .int 0), (0, .ref aM), (1, .int p0), (2, .int p1)]) hx hb dX7_hearing_3 hl (by decide) rfl (fun ls hl => ?_)
  exact hC5 FU p0 p1 0 0 _ _ _ h hP hD hS (lv_sub hl [2, 3, 4, 1, 0] rfl)
set_option maxHeartbeats 4000000 in
set_option maxRecDepth 100000 in
theorem c_X7_spread (l : Launch) (dC : Nat → ClassId) (dI : Nat → Nat → Nat) (cI cJ cZ cA : ClassId) (aM aM_lane aM_many aM_item aM_beside aM_round aM_reads aM_tape aM_fewest aM_may aM_then aM_cases aM_next aM_trace : Nat) (M_thrown : Int32) (M_status : Int32) (M_posts : Int32) (M_rounds : Int32) (M_read : Int32) (M_taped : Int32) (M_latest : Int32) (M_length : Int32) (M_at : Int32) (M_sort : Int32) (M_from : Int32) (M_till : Int32) (M_fault : Int32) (M_faultAt : Int32) (M_traced : Int32) (M_beside : Nat → Int32) (p0 : Int32) (p1 : Int32) (p2 : Int32) (rr : Int32) (h : fX7_spread M_posts M_beside p0 p1 p2 = some rr) : Cti l yX7_spread wsX7_spread rmX7_spread (dC, dI) (tyL cI cJ cZ cA) [(aM, .inr (7, [.int M_thrown, .int M_status, .ref aM_lane, .ref aM_many, .ref aM_item, .int M_posts, .ref aM_beside, .int M_rounds, .ref aM_round, .int M_read, .ref aM_reads, .ref aM_tape, .int M_taped, .int M_latest, .int M_length, .int M_at, .int M_sort, .int M_from, .int M_till, .int M_fault, .int M_faultAt, .ref aM_fewest, .ref aM_may, .ref aM_then, .ref aM_cases, .ref aM_next, .ref aM_trace, .int M_traced])), (aM_beside, .inl (cI, 8, .inl M_beside))] [(aM, .inr (7, [.int M_thrown, .int M_status, .ref aM_lane, .ref aM_many, .ref aM_item, .int M_posts, .ref aM_beside, .int M_rounds, .ref aM_round, .int M_read, .ref aM_reads, .ref aM_tape, .int M_taped, .int M_latest, .int M_length, .int M_at, .int M_sort, .int M_from, .int M_till, .int M_fault, .int M_faultAt, .ref aM_fewest, .ref aM_may, .ref aM_then, .ref aM_cases, .ref aM_next, .ref aM_trace, .int M_traced])), (aM_beside, .inl (cI, 8, .inl M_beside))] [.ref aM, .int p0, .int p1, .int p2] rr := by
  refine ct_int (ty := .int) (cc := cX7_spread) (maxL := 4) (by decide) rfl (Nat.le_of_ble_eq_true rfl) ?_
  intro p e s m args below meth c A Q ls hx hb hml hown hts hA hK hP hD hS hl hret
  have hl : lv_has ls 4 [(0, .ref aM), (1, .int p0), (2, .int p1), (3, .int p2)] := hl
  unfold fX7_spread at h
  refine lv_iload_n hx hb dX7_spread_0 rfl (lv_at hl 2 rfl) ?_
  refine lv_aload_n hx hb dX7_spread_1 rfl (lv_at hl 0 rfl) ?_
  refine lv_iload_n hx hb dX7_spread_2 rfl (lv_at hl 1 rfl) ?_
  refine lv_iload_n hx hb dX7_spread_3 rfl (lv_at hl 2 rfl) ?_
  refine lv_iload_n hx hb dX7_spread_4 rfl (lv_at hl 3 rfl) ?_
  refine lv_iand hx hb dX7_spread_5 ?_
  obtain ⟨r1, e2, h⟩ := bd1_s h
  refine kc_vi (rest := [.int p1]) (wr := []) (wF := [(aM, .inr (7, [.int M_thrown, .int M_status, .ref aM_lane, .ref aM_many, .ref aM_item, .int M_posts, .ref aM_beside, .int M_rounds, .ref aM_round, .int M_read, .ref aM_reads, .ref aM_tape, .int M_taped, .int M_latest, .int M_length, .int M_at, .int M_sort, .int M_from, .int M_till, .int M_fault, .int M_faultAt, .ref aM_fewest, .ref aM_may, .ref aM_then, .ref aM_cases, .ref aM_next, .ref aM_trace, .int M_traced])), (aM_beside, .inl (cI, 8, .inl M_beside))]) ⟨hx, hb, hml, hown, hts⟩ (c_X7_hearing l dC dI cI cJ cZ cA aM aM_lane aM_many aM_item aM_beside aM_round aM_reads aM_tape aM_fewest aM_may aM_then aM_cases aM_next aM_trace M_thrown M_status M_posts M_rounds M_read M_taped M_latest M_length M_at M_sort M_from M_till M_fault M_faultAt M_traced M_beside p0 (p1 &&& p2) r1 e2) (cwV 2 hts gX7_spread_X7_hearing rfl rfl rfl (by decide +kernel) ⟨Nat.le_of_ble_eq_true rfl, Nat.le_of_ble_eq_true rfl⟩) hK hP hD hS hA [0, 1] [] [0, 1] 0 rfl rfl rfl rfl (by decide) rfl rfl rfl rfl rfl rfl hl.1 rfl (Nat.le_of_ble_eq_true rfl) dX7_spread_6 ⟨Nat.zero_le _, Nat.zero_le _⟩ (fun H locs hP hD hS => ?_)
  refine lv_ior hx hb dX7_spread_9 ?_
  obtain rfl := sj1 h
  exact hret _ _ _ _ _ rfl rfl hP hD hS dX7_spread_10
set_option maxHeartbeats 4000000 in
set_option maxRecDepth 100000 in
theorem c_X7_hears (l : Launch) (dC : Nat → ClassId) (dI : Nat → Nat → Nat) (cI cJ cZ cA : ClassId) (aM aM_lane aM_many aM_item aM_beside aM_round aM_reads aM_tape aM_fewest aM_may aM_then aM_cases aM_next aM_trace : Nat) (M_thrown : Int32) (M_status : Int32) (M_posts : Int32) (M_rounds : Int32) (M_read : Int32) (M_taped : Int32) (M_latest : Int32) (M_length : Int32) (M_at : Int32) (M_sort : Int32) (M_from : Int32) (M_till : Int32) (M_fault : Int32) (M_faultAt : Int32) (M_traced : Int32) (M_beside : Nat → Int32) (p0 : Int32) (p1 : Int32) (rr : Int32) (M_thrown_z : Int32) (h : fX7_hears M_thrown M_posts M_beside p0 p1 = some (rr, M_thrown_z)) : Cti l yX7_hears wsX7_hears rmX7_hears (dC, dI) (tyL cI cJ cZ cA) [(aM, .inr (7, [.int M_thrown, .int M_status, .ref aM_lane, .ref aM_many, .ref aM_item, .int M_posts, .ref aM_beside, .int M_rounds, .ref aM_round, .int M_read, .ref aM_reads, .ref aM_tape, .int M_taped, .int M_latest, .int M_length, .int M_at, .int M_sort, .int M_from, .int M_till, .int M_fault, .int M_faultAt, .ref aM_fewest, .ref aM_may, .ref aM_then, .ref aM_cases, .ref aM_next, .ref aM_trace, .int M_traced])), (aM_beside, .inl (cI, 8, .inl M_beside))] [(aM, .inr (7, [.int M_thrown_z, .int M_status, .ref aM_lane, .ref aM_many, .ref aM_item, .int M_posts, .ref aM_beside, .int M_rounds, .ref aM_round, .int M_read, .ref aM_reads, .ref aM_tape, .int M_taped, .int M_latest, .int M_length, .int M_at, .int M_sort, .int M_from, .int M_till, .int M_fault, .int M_faultAt, .ref aM_fewest, .ref aM_may, .ref aM_then, .ref aM_cases, .ref aM_next, .ref aM_trace, .int M_traced])), (aM_beside, .inl (cI, 8, .inl M_beside))] [.ref aM, .int p0, .int p1] rr := by
  refine ct_int (ty := .int) (cc := cX7_hears) (maxL := 3) (by decide) rfl (Nat.le_of_ble_eq_true rfl) ?_
  intro p e s m args below meth c A Q ls hx hb hml hown hts hA hK hP hD hS hl hret
  have hl : lv_has ls 3 [(0, .ref aM), (1, .int p0), (2, .int p1)] := hl
  have k_0 := hts (.fieldLink RX7 51 "BeepNetModel" "thrown" "I") (by decide +kernel)
  have k_1 := hts (.constant RX7 71 (-1000001)) (by decide +kernel)
  have hiX7 : ∀ w ∈ u_ws RX7 TX7 28, w ∈ wsX7_hears := fun w hw => List.mem_cons_of_mem _ (List.mem_append_right _ hw)
  unfold fX7_hears at h
  refine lv_aload_n hx hb dX7_hears_0 rfl (lv_at hl 0 rfl) ?_
  refine lv_iconst (v := 0) hx hb dX7_hears_1 (by decide) ?_
  refine ka_put (w1 := [(aM, .inr (7, [.int 0, .int M_status, .ref aM_lane, .ref aM_many, .ref aM_item, .int M_posts, .ref aM_beside, .int M_rounds, .ref aM_round, .int M_read, .ref aM_reads, .ref aM_tape, .int M_taped, .int M_latest, .int M_length, .int M_at, .int M_sort, .int M_from, .int M_till, .int M_fault, .int M_faultAt, .ref aM_fewest, .ref aM_may, .ref aM_then, .ref aM_cases, .ref aM_next, .ref aM_trace, .int M_traced])), (aM_beside, .inl (cI, 8, .inl M_beside))]) (C := RX7) (T := TX7) (Nf := 28) (ref := "BeepNetModel") hx hb hts hiX7 tyX7 tyX7_ok nmX7 hown hK hP hD hS 0 rfl rfl 0 (by decide) k_0 rfl rfl rfl (Nat.le_of_ble_eq_true rfl) dX7_hears_2 rfl (fun H locs hP hD hS => ?_)
  refine lv_iload_n hx hb dX7_hears_5 rfl (lv_at hl 1 rfl) ?_
  obtain ⟨r1, e2, h⟩ := bd1_s h
  refine kc_si (rest := []) (wr := [(aM, .inr (7, [.int 0, .int M_status, .ref aM_lane, .ref aM_many, .ref aM_item, .int M_posts, .ref aM_beside, .int M_rounds, .ref aM_round, .int M_read, .ref aM_reads, .ref aM_tape, .int M_taped, .int M_latest, .int M_length, .int M_at, .int M_sort, .int M_from, .int M_till, .int M_fault, .int M_faultAt, .ref aM_fewest, .ref aM_may, .ref aM_then, .ref aM_cases, .ref aM_next, .ref aM_trace, .int M_traced])), (aM_beside, .inl (cI, 8, .inl M_beside))]) (wF := [(aM, .inr (7, [.int 0, .int M_status, .ref aM_lane, .ref aM_many, .ref aM_item, .int M_posts, .ref aM_beside, .int M_rounds, .ref aM_round, .int M_read, .ref aM_reads, .ref aM_tape, .int M_taped, .int M_latest, .int M_length, .int M_at, .int M_sort, .int M_from, .int M_till, .int M_fault, .int M_faultAt, .ref aM_fewest, .ref aM_may, .ref aM_then, .ref aM_cases, .ref aM_next, .ref aM_trace, .int M_traced])), (aM_beside, .inl (cI, 8, .inl M_beside))]) ⟨hx, hb, hml, hown, hts⟩ (c_X7_isHearing l dC dI cI cJ cZ cA p0 r1 e2) (va_cwS 1 hts gX7_hears_X7_isHearing rfl rfl rfl (by decide +kernel) ⟨Nat.le_of_ble_eq_true rfl, Nat.le_of_ble_eq_true rfl⟩) hK hP hD hS hA [] [0, 1] [0, 1] rfl rfl rfl rfl (by decide) rfl rfl rfl hl.1 rfl (Nat.le_of_ble_eq_true rfl) dX7_hears_6 ⟨Nat.zero_le _, Nat.zero_le _⟩ (fun H locs hP hD hS => ?_)
  refine lv_if_eq (tgt := 20) hx hb dX7_hears_9 (by decide) (fun c3 => ?_) (fun c3 => ?_)
  · have h := ift c3 h
    refine lv_ldc hx hb hown k_1 dX7_hears_20 ?_
    refine lv_goto (tgt := 31) hx hb dX7_hears_22 (by decide) ?_
    obtain ⟨rfl, rfl⟩ := sj2 h
    exact hret _ _ _ _ _ rfl rfl hP hD hS dX7_hears_31
  · have h := ifn c3 h
    refine lv_aload_n hx hb dX7_hears_12 rfl (lv_at hl 0 rfl) ?_
    refine lv_iload_n hx hb dX7_hears_13 rfl (lv_at hl 2 rfl) ?_
    obtain ⟨r4, e5, h⟩ := bd1_s h
    refine kc_vi (rest := []) (wr := [(aM_beside, .inl (cI, 8, .inl M_beside))]) (wF := [(aM, .inr (7, [.int 0, .int M_status, .ref aM_lane, .ref aM_many, .ref aM_item, .int M_posts, .ref aM_beside, .int M_rounds, .ref aM_round, .int M_read, .ref aM_reads, .ref aM_tape, .int M_taped, .int M_latest, .int M_length, .int M_at, .int M_sort, .int M_from, .int M_till, .int M_fault, .int M_faultAt, .ref aM_fewest, .ref aM_may, .ref aM_then, .ref aM_cases, .ref aM_next, .ref aM_trace, .int M_traced])), (aM_beside, .inl (cI, 8, .inl M_beside))]) ⟨hx, hb, hml, hown, hts⟩ (c_X7_isSet l dC dI cI cJ cZ cA aM aM_lane aM_many aM_item aM_beside aM_round aM_reads aM_tape aM_fewest aM_may aM_then aM_cases aM_next aM_trace 0 M_status M_posts M_rounds M_read M_taped M_latest M_length M_at M_sort M_from M_till M_fault M_faultAt M_traced p1 r4 e5) (cwV 1 hts gX7_hears_X7_isSet rfl rfl rfl (by decide +kernel) ⟨Nat.le_of_ble_eq_true rfl, Nat.le_of_ble_eq_true rfl⟩) hK hP hD hS hA [0] [1] [1, 0] 0 rfl rfl rfl rfl (by decide) rfl rfl rfl rfl rfl rfl hl.1 rfl (Nat.le_of_ble_eq_true rfl) dX7_hears_14 ⟨Nat.zero_le _, Nat.zero_le _⟩ (fun H locs hP hD hS => ?_)
    refine lv_if_ne (tgt := 25) hx hb dX7_hears_17 (by decide) (fun c6 => ?_) (fun c6 => ?_)
    · have h := ifn c6 h
      refine lv_aload_n hx hb dX7_hears_25 rfl (lv_at hl 0 rfl) ?_
      refine lv_iload_n hx hb dX7_hears_26 rfl (lv_at hl 1 rfl) ?_
      refine lv_iload_n hx hb dX7_hears_27 rfl (lv_at hl 2 rfl) ?_
      obtain ⟨r7, e8, h⟩ := bd1_s h
      refine kc_vi (rest := []) (wr := []) (wF := [(aM, .inr (7, [.int 0, .int M_status, .ref aM_lane, .ref aM_many, .ref aM_item, .int M_posts, .ref aM_beside, .int M_rounds, .ref aM_round, .int M_read, .ref aM_reads, .ref aM_tape, .int M_taped, .int M_latest, .int M_length, .int M_at, .int M_sort, .int M_from, .int M_till, .int M_fault, .int M_faultAt, .ref aM_fewest, .ref aM_may, .ref aM_then, .ref aM_cases, .ref aM_next, .ref aM_trace, .int M_traced])), (aM_beside, .inl (cI, 8, .inl M_beside))]) ⟨hx, hb, hml, hown, hts⟩ (c_X7_hearing l dC dI cI cJ cZ cA aM aM_lane aM_many aM_item aM_beside aM_round aM_reads aM_tape aM_fewest aM_may aM_then aM_cases aM_next aM_trace 0 M_status M_posts M_rounds M_read M_taped M_latest M_length M_at M_sort M_from M_till M_fault M_faultAt M_traced M_beside p0 p1 r7 e8) (cwV 2 hts gX7_hears_X7_hearing rfl rfl rfl (by decide +kernel) ⟨Nat.le_of_ble_eq_true rfl, Nat.le_of_ble_eq_true rfl⟩) hK hP hD hS hA [0, 1] [] [0, 1] 0 rfl rfl rfl rfl (by decide) rfl rfl rfl rfl rfl rfl hl.1 rfl (Nat.le_of_ble_eq_true rfl) dX7_hears_28 ⟨Nat.zero_le _, Nat.zero_le _⟩ (fun H locs hP hD hS => ?_)
      obtain ⟨rfl, rfl⟩ := sj2 h
      exact hret _ _ _ _ _ rfl rfl hP hD hS dX7_hears_31
    · have h := ift c6 h
      refine lv_ldc hx hb hown k_1 dX7_hears_20 ?_
      refine lv_goto (tgt := 31) hx hb dX7_hears_22 (by decide) ?_
      obtain ⟨rfl, rfl⟩ := sj2 h
      exact hret _ _ _ _ _ rfl rfl hP hD hS dX7_hears_31
set_option maxHeartbeats 4000000 in
set_option maxRecDepth 100000 in
theorem c_X7_spreads (l : Launch) (dC : Nat → ClassId) (dI : Nat → Nat → Nat) (cI cJ cZ cA : ClassId) (aM aM_lane aM_many aM_item aM_beside aM_round aM_reads aM_tape aM_fewest aM_may aM_then aM_cases aM_next aM_trace : Nat) (M_thrown : Int32) (M_status : Int32) (M_posts : Int32) (M_rounds : Int32) (M_read : Int32) (M_taped : Int32) (M_latest : Int32) (M_length : Int32) (M_at : Int32) (M_sort : Int32) (M_from : Int32) (M_till : Int32) (M_fault : Int32) (M_faultAt : Int32) (M_traced : Int32) (M_beside : Nat → Int32) (p0 : Int32) (p1 : Int32) (p2 : Int32) (rr : Int32) (M_thrown_z : Int32) (h : fX7_spreads M_thrown M_posts M_beside p0 p1 p2 = some (rr, M_thrown_z)) : Cti l yX7_spreads wsX7_spreads rmX7_spreads (dC, dI) (tyL cI cJ cZ cA) [(aM, .inr (7, [.int M_thrown, .int M_status, .ref aM_lane, .ref aM_many, .ref aM_item, .int M_posts, .ref aM_beside, .int M_rounds, .ref aM_round, .int M_read, .ref aM_reads, .ref aM_tape, .int M_taped, .int M_latest, .int M_length, .int M_at, .int M_sort, .int M_from, .int M_till, .int M_fault, .int M_faultAt, .ref aM_fewest, .ref aM_may, .ref aM_then, .ref aM_cases, .ref aM_next, .ref aM_trace, .int M_traced])), (aM_beside, .inl (cI, 8, .inl M_beside))] [(aM, .inr (7, [.int M_thrown_z, .int M_status, .ref aM_lane, .ref aM_many, .ref aM_item, .int M_posts, .ref aM_beside, .int M_rounds, .ref aM_round, .int M_read, .ref aM_reads, .ref aM_tape, .int M_taped, .int M_latest, .int M_length, .int M_at, .int M_sort, .int M_from, .int M_till, .int M_fault, .int M_faultAt, .ref aM_fewest, .ref aM_may, .ref aM_then, .ref aM_cases, .ref aM_next, .ref aM_trace, .int M_traced])), (aM_beside, .inl (cI, 8, .inl M_beside))] [.ref aM, .int p0, .int p1, .int p2] rr := by
  refine ct_int (ty := .int) (cc := cX7_spreads) (maxL := 4) (by decide) rfl (Nat.le_of_ble_eq_true rfl) ?_
  intro p e s m args below meth c A Q ls hx hb hml hown hts hA hK hP hD hS hl hret
  have hl : lv_has ls 4 [(0, .ref aM), (1, .int p0), (2, .int p1), (3, .int p2)] := hl
  have k_0 := hts (.fieldLink RX7 51 "BeepNetModel" "thrown" "I") (by decide +kernel)
  have k_1 := hts (.constant RX7 71 (-1000001)) (by decide +kernel)
  have hiX7 : ∀ w ∈ u_ws RX7 TX7 28, w ∈ wsX7_spreads := fun w hw => List.mem_cons_of_mem _ (List.mem_append_right _ hw)
  unfold fX7_spreads at h
  refine lv_aload_n hx hb dX7_spreads_0 rfl (lv_at hl 0 rfl) ?_
  refine lv_iconst (v := 0) hx hb dX7_spreads_1 (by decide) ?_
  refine ka_put (w1 := [(aM, .inr (7, [.int 0, .int M_status, .ref aM_lane, .ref aM_many, .ref aM_item, .int M_posts, .ref aM_beside, .int M_rounds, .ref aM_round, .int M_read, .ref aM_reads, .ref aM_tape, .int M_taped, .int M_latest, .int M_length, .int M_at, .int M_sort, .int M_from, .int M_till, .int M_fault, .int M_faultAt, .ref aM_fewest, .ref aM_may, .ref aM_then, .ref aM_cases, .ref aM_next, .ref aM_trace, .int M_traced])), (aM_beside, .inl (cI, 8, .inl M_beside))]) (C := RX7) (T := TX7) (Nf := 28) (ref := "BeepNetModel") hx hb hts hiX7 tyX7 tyX7_ok nmX7 hown hK hP hD hS 0 rfl rfl 0 (by decide) k_0 rfl rfl rfl (Nat.le_of_ble_eq_true rfl) dX7_spreads_2 rfl (fun H locs hP hD hS => ?_)
  refine lv_iload_n hx hb dX7_spreads_5 rfl (lv_at hl 1 rfl) ?_
  obtain ⟨r1, e2, h⟩ := bd1_s h
  refine kc_si (rest := []) (wr := [(aM, .inr (7, [.int 0, .int M_status, .ref aM_lane, .ref aM_many, .ref aM_item, .int M_posts, .ref aM_beside, .int M_rounds, .ref aM_round, .int M_read, .ref aM_reads, .ref aM_tape, .int M_taped, .int M_latest, .int M_length, .int M_at, .int M_sort, .int M_from, .int M_till, .int M_fault, .int M_faultAt, .ref aM_fewest, .ref aM_may, .ref aM_then, .ref aM_cases, .ref aM_next, .ref aM_trace, .int M_traced])), (aM_beside, .inl (cI, 8, .inl M_beside))]) (wF := [(aM, .inr (7, [.int 0, .int M_status, .ref aM_lane, .ref aM_many, .ref aM_item, .int M_posts, .ref aM_beside, .int M_rounds, .ref aM_round, .int M_read, .ref aM_reads, .ref aM_tape, .int M_taped, .int M_latest, .int M_length, .int M_at, .int M_sort, .int M_from, .int M_till, .int M_fault, .int M_faultAt, .ref aM_fewest, .ref aM_may, .ref aM_then, .ref aM_cases, .ref aM_next, .ref aM_trace, .int M_traced])), (aM_beside, .inl (cI, 8, .inl M_beside))]) ⟨hx, hb, hml, hown, hts⟩ (c_X7_isHearing l dC dI cI cJ cZ cA p0 r1 e2) (va_cwS 1 hts gX7_spreads_X7_isHearing rfl rfl rfl (by decide +kernel) ⟨Nat.le_of_ble_eq_true rfl, Nat.le_of_ble_eq_true rfl⟩) hK hP hD hS hA [] [0, 1] [0, 1] rfl rfl rfl rfl (by decide) rfl rfl rfl hl.1 rfl (Nat.le_of_ble_eq_true rfl) dX7_spreads_6 ⟨Nat.zero_le _, Nat.zero_le _⟩ (fun H locs hP hD hS => ?_)
  refine lv_if_eq (tgt := 28) hx hb dX7_spreads_9 (by decide) (fun c3 => ?_) (fun c3 => ?_)
  · have h := ift c3 h
    refine lv_ldc hx hb hown k_1 dX7_spreads_28 ?_
    refine lv_goto (tgt := 40) hx hb dX7_spreads_30 (by decide) ?_
    obtain ⟨rfl, rfl⟩ := sj2 h
    exact hret _ _ _ _ _ rfl rfl hP hD hS dX7_spreads_40
  · have h := ifn c3 h
    refine lv_aload_n hx hb dX7_spreads_12 rfl (lv_at hl 0 rfl) ?_
    refine lv_iload_n hx hb dX7_spreads_13 rfl (lv_at hl 2 rfl) ?_
    obtain ⟨r4, e5, h⟩ := bd1_s h
    refine kc_vi (rest := []) (wr := [(aM_beside, .inl (cI, 8, .inl M_beside))]) (wF := [(aM, .inr (7, [.int 0, .int M_status, .ref aM_lane, .ref aM_many, .ref aM_item, .int M_posts, .ref aM_beside, .int M_rounds, .ref aM_round, .int M_read, .ref aM_reads, .ref aM_tape, .int M_taped, .int M_latest, .int M_length, .int M_at, .int M_sort, .int M_from, .int M_till, .int M_fault, .int M_faultAt, .ref aM_fewest, .ref aM_may, .ref aM_then, .ref aM_cases, .ref aM_next, .ref aM_trace, .int M_traced])), (aM_beside, .inl (cI, 8, .inl M_beside))]) ⟨hx, hb, hml, hown, hts⟩ (c_X7_isSet l dC dI cI cJ cZ cA aM aM_lane aM_many aM_item aM_beside aM_round aM_reads aM_tape aM_fewest aM_may aM_then aM_cases aM_next aM_trace 0 M_status M_posts M_rounds M_read M_taped M_latest M_length M_at M_sort M_from M_till M_fault M_faultAt M_traced p1 r4 e5) (cwV 1 hts gX7_spreads_X7_isSet rfl rfl rfl (by decide +kernel) ⟨Nat.le_of_ble_eq_true rfl, Nat.le_of_ble_eq_true rfl⟩) hK hP hD hS hA [0] [1] [1, 0] 0 rfl rfl rfl rfl (by decide) rfl rfl rfl rfl rfl rfl hl.1 rfl (Nat.le_of_ble_eq_true rfl) dX7_spreads_14 ⟨Nat.zero_le _, Nat.zero_le _⟩ (fun H locs hP hD hS => ?_)
    refine lv_if_eq (tgt := 28) hx hb dX7_spreads_17 (by decide) (fun c6 => ?_) (fun c6 => ?_)
    · have h := ift c6 h
      refine lv_ldc hx hb hown k_1 dX7_spreads_28 ?_
      refine lv_goto (tgt := 40) hx hb dX7_spreads_30 (by decide) ?_
      obtain ⟨rfl, rfl⟩ := sj2 h
      exact hret _ _ _ _ _ rfl rfl hP hD hS dX7_spreads_40
    · have h := ifn c6 h
      refine lv_aload_n hx hb dX7_spreads_20 rfl (lv_at hl 0 rfl) ?_
      refine lv_iload_n hx hb dX7_spreads_21 rfl (lv_at hl 3 rfl) ?_
      obtain ⟨r7, e8, h⟩ := bd1_s h
      refine kc_vi (rest := []) (wr := [(aM_beside, .inl (cI, 8, .inl M_beside))]) (wF := [(aM, .inr (7, [.int 0, .int M_status, .ref aM_lane, .ref aM_many, .ref aM_item, .int M_posts, .ref aM_beside, .int M_rounds, .ref aM_round, .int M_read, .ref aM_reads, .ref aM_tape, .int M_taped, .int M_latest, .int M_length, .int M_at, .int M_sort, .int M_from, .int M_till, .int M_fault, .int M_faultAt, .ref aM_fewest, .ref aM_may, .ref aM_then, .ref aM_cases, .ref aM_next, .ref aM_trace, .int M_traced])), (aM_beside, .inl (cI, 8, .inl M_beside))]) ⟨hx, hb, hml, hown, hts⟩ (c_X7_isSet l dC dI cI cJ cZ cA aM aM_lane aM_many aM_item aM_beside aM_round aM_reads aM_tape aM_fewest aM_may aM_then aM_cases aM_next aM_trace 0 M_status M_posts M_rounds M_read M_taped M_latest M_length M_at M_sort M_from M_till M_fault M_faultAt M_traced p2 r7 e8) (cwV 1 hts gX7_spreads_X7_isSet rfl rfl rfl (by decide +kernel) ⟨Nat.le_of_ble_eq_true rfl, Nat.le_of_ble_eq_true rfl⟩) hK hP hD hS hA [0] [1] [1, 0] 0 rfl rfl rfl rfl (by decide) rfl rfl rfl rfl rfl rfl hl.1 rfl (Nat.le_of_ble_eq_true rfl) dX7_spreads_22 ⟨Nat.zero_le _, Nat.zero_le _⟩ (fun H locs hP hD hS => ?_)
      refine lv_if_ne (tgt := 33) hx hb dX7_spreads_25 (by decide) (fun c9 => ?_) (fun c9 => ?_)
      · have h := ifn c9 h
        refine lv_aload_n hx hb dX7_spreads_33 rfl (lv_at hl 0 rfl) ?_
        refine lv_iload_n hx hb dX7_spreads_34 rfl (lv_at hl 1 rfl) ?_
        refine lv_iload_n hx hb dX7_spreads_35 rfl (lv_at hl 2 rfl) ?_
        refine lv_iload_n hx hb dX7_spreads_36 rfl (lv_at hl 3 rfl) ?_
        obtain ⟨r10, e11, h⟩ := bd1_s h
        refine kc_vi (rest := []) (wr := []) (wF := [(aM, .inr (7, [.int 0, .int M_status, .ref aM_lane, .ref aM_many, .ref aM_item, .int M_posts, .ref aM_beside, .int M_rounds, .ref aM_round, .int M_read, .ref aM_reads, .ref aM_tape, .int M_taped, .int M_latest, .int M_length, .int M_at, .int M_sort, .int M_from, .int M_till, .int M_fault, .int M_faultAt, .ref aM_fewest, .ref aM_may, .ref aM_then, .ref aM_cases, .ref aM_next, .ref aM_trace, .int M_traced])), (aM_beside, .inl (cI, 8, .inl M_beside))]) ⟨hx, hb, hml, hown, hts⟩ (c_X7_spread l dC dI cI cJ cZ cA aM aM_lane aM_many aM_item aM_beside aM_round aM_reads aM_tape aM_fewest aM_may aM_then aM_cases aM_next aM_trace 0 M_status M_posts M_rounds M_read M_taped M_latest M_length M_at M_sort M_from M_till M_fault M_faultAt M_traced M_beside p0 p1 p2 r10 e11) (cwV 3 hts gX7_spreads_X7_spread rfl rfl rfl (by decide +kernel) ⟨Nat.le_of_ble_eq_true rfl, Nat.le_of_ble_eq_true rfl⟩) hK hP hD hS hA [0, 1] [] [0, 1] 0 rfl rfl rfl rfl (by decide) rfl rfl rfl rfl rfl rfl hl.1 rfl (Nat.le_of_ble_eq_true rfl) dX7_spreads_37 ⟨Nat.zero_le _, Nat.zero_le _⟩ (fun H locs hP hD hS => ?_)
        obtain ⟨rfl, rfl⟩ := sj2 h
        exact hret _ _ _ _ _ rfl rfl hP hD hS dX7_spreads_40
      · have h := ift c9 h
        refine lv_ldc hx hb hown k_1 dX7_spreads_28 ?_
        refine lv_goto (tgt := 40) hx hb dX7_spreads_30 (by decide) ?_
        obtain ⟨rfl, rfl⟩ := sj2 h
        exact hret _ _ _ _ _ rfl rfl hP hD hS dX7_spreads_40
set_option maxHeartbeats 4000000 in
set_option maxRecDepth 100000 in
theorem c_X7_feed (l : Launch) (dC : Nat → ClassId) (dI : Nat → Nat → Nat) (cI cJ cZ cA : ClassId) (aM aM_lane aM_many aM_item aM_beside aM_round aM_reads aM_tape aM_fewest aM_may aM_then aM_cases aM_next aM_trace : Nat) (M_thrown : Int32) (M_status : Int32) (M_posts : Int32) (M_rounds : Int32) (M_read : Int32) (M_taped : Int32) (M_latest : Int32) (M_length : Int32) (M_at : Int32) (M_sort : Int32) (M_from : Int32) (M_till : Int32) (M_fault : Int32) (M_faultAt : Int32) (M_traced : Int32) (M_tape : Nat → Int32) (p0 : Int64) (p1 : Int32) (rr : Int32) (M_thrown_z : Int32) (M_taped_z : Int32) (M_tape_z : Nat → Int32) (h : fX7_feed M_thrown M_taped M_tape p0 p1 = some (rr, M_thrown_z, M_taped_z, M_tape_z)) : Cti l yX7_feed wsX7_feed rmX7_feed (dC, dI) (tyL cI cJ cZ cA) [(aM, .inr (7, [.int M_thrown, .int M_status, .ref aM_lane, .ref aM_many, .ref aM_item, .int M_posts, .ref aM_beside, .int M_rounds, .ref aM_round, .int M_read, .ref aM_reads, .ref aM_tape, .int M_taped, .int M_latest, .int M_length, .int M_at, .int M_sort, .int M_from, .int M_till, .int M_fault, .int M_faultAt, .ref aM_fewest, .ref aM_may, .ref aM_then, .ref aM_cases, .ref aM_next, .ref aM_trace, .int M_traced])), (aM_tape, .inl (cI, 300, .inl M_tape))] [(aM, .inr (7, [.int M_thrown_z, .int M_status, .ref aM_lane, .ref aM_many, .ref aM_item, .int M_posts, .ref aM_beside, .int M_rounds, .ref aM_round, .int M_read, .ref aM_reads, .ref aM_tape, .int M_taped_z, .int M_latest, .int M_length, .int M_at, .int M_sort, .int M_from, .int M_till, .int M_fault, .int M_faultAt, .ref aM_fewest, .ref aM_may, .ref aM_then, .ref aM_cases, .ref aM_next, .ref aM_trace, .int M_traced])), (aM_tape, .inl (cI, 300, .inl M_tape_z))] [.ref aM, .long p0, .int p1] rr := by
  refine ct_int (ty := .int) (cc := cX7_feed) (maxL := 5) (by decide) rfl (Nat.le_of_ble_eq_true rfl) ?_
  intro p e s m args below meth c A Q ls hx hb hml hown hts hA hK hP hD hS hl hret
  have hl : lv_has ls 5 [(0, .ref aM), (1, .long p0), (3, .int p1)] := hl
  have k_0 := hts (.fieldLink RX7 121 "BeepNetModel" "taped" "I") (by decide +kernel)
  have k_1 := hts (.fieldLink RX7 28 "BeepNetModel" "tape" "[I") (by decide +kernel)
  have k_2 := hts (.constantLong RX7 124 (255)) (by decide +kernel)
  have k_3 := hts (.fieldLink RX7 51 "BeepNetModel" "thrown" "I") (by decide +kernel)
  have k_4 := hts (.constantLong RX7 119 (8)) (by decide +kernel)
  have k_5 := hts (.constant RX7 79 (-1000003)) (by decide +kernel)
  have k_6 := hts (.constant RX7 71 (-1000001)) (by decide +kernel)
  have hiX7 : ∀ w ∈ u_ws RX7 TX7 28, w ∈ wsX7_feed := fun w hw => List.mem_cons_of_mem _ (List.mem_append_right _ hw)
  have hC40 : ∀ (n : Nat) (M_thrown : Int32) (M_taped : Int32) (M_tape : Nat → Int32) (x1 : Int64) (x4 : Int32) (H : Heap) (locs : List Loc) (ls : Array Slot), fX7_feed_c40 n M_thrown M_taped M_tape x1 x4 = some (rr, M_thrown_z, M_taped_z, M_tape_z) → va_P (dC, dI) vwCl [(aM, .inr (7, [.int M_thrown, .int M_status, .ref aM_lane, .ref aM_many, .ref aM_item, .int M_posts, .ref aM_beside, .int M_rounds, .ref aM_round, .int M_read, .ref aM_reads, .ref aM_tape, .int M_taped, .int M_latest, .int M_length, .int M_at, .int M_sort, .int M_from, .int M_till, .int M_fault, .int M_faultAt, .ref aM_fewest, .ref aM_may, .ref aM_then, .ref aM_cases, .ref aM_next, .ref aM_trace, .int M_traced])), (aM_tape, .inl (cI, 300, .inl M_tape))] H → va_D A [(aM, .inr (7, [.int M_thrown, .int M_status, .ref aM_lane, .ref aM_many, .ref aM_item, .int M_posts, .ref aM_beside, .int M_rounds, .ref aM_round, .int M_read, .ref aM_reads, .ref aM_tape, .int M_taped, .int M_latest, .int M_length, .int M_at, .int M_sort, .int M_from, .int M_till, .int M_fault, .int M_faultAt, .ref aM_fewest, .ref aM_may, .ref aM_then, .ref aM_cases, .ref aM_next, .ref aM_trace, .int M_traced])), (aM_tape, .inl (cI, 300, .inl M_tape))] → va_S A s.heap H locs → lv_has ls 5 [(0, .ref aM), (1, .long x1), (4, .int x4)] → W p l e rmX7_feed s m args below meth c H locs 0 0 Q (F0 m 40 ls []) := by
    intro n
    induction n with
    | zero => intro M_thrown M_taped M_tape x1 x4 H locs ls h; rw [fX7_feed_c40] at h; cases h
    | succ n40 ih40 =>
      intro M_thrown M_taped M_tape x1 x4 H locs ls h hP hD hS hl
      rw [fX7_feed_c40] at h
      refine lv_iload hx hb dX7_feed_40 (lv_at hl 2 rfl) ?_
      refine lv_if_lt (tgt := 82) hx hb dX7_feed_42 (by decide) (fun c4101 => ?_) (fun c4101 => ?_)
      · have h := ift c4101 h
        refine lv_aload_n hx hb dX7_feed_82 rfl (lv_at hl 0 rfl) ?_
        refine ka_get (v := .int M_taped) (C := RX7) (T := TX7) (Nf := 28) (ref := "BeepNetModel") hx hb hts hiX7 hown hK hP 0 rfl rfl 12 (by decide) k_0 rfl rfl dX7_feed_83 ?_
        obtain ⟨rfl, rfl, rfl, rfl⟩ := sj4 h
        exact hret _ _ _ _ _ rfl rfl hP hD hS dX7_feed_86
      · have h := ifn c4101 h
        refine lv_aload_n hx hb dX7_feed_45 rfl (lv_at hl 0 rfl) ?_
        refine ka_get (v := .ref aM_tape) (C := RX7) (T := TX7) (Nf := 28) (ref := "BeepNetModel") hx hb hts hiX7 hown hK hP 0 rfl rfl 11 (by decide) k_1 rfl rfl dX7_feed_46 ?_
        refine lv_aload_n hx hb dX7_feed_49 rfl (lv_at hl 0 rfl) ?_
        refine ka_get (v := .int M_taped) (C := RX7) (T := TX7) (Nf := 28) (ref := "BeepNetModel") hx hb hts hiX7 hown hK hP 0 rfl rfl 12 (by decide) k_0 rfl rfl dX7_feed_50 ?_
        refine lv_lload_n hx hb dX7_feed_53 rfl (lv_at hl 1 rfl) ?_
        refine lv_bipush (v := 8) hx hb dX7_feed_54 (by decide) ?_
        refine lv_iload hx hb dX7_feed_56 (lv_at hl 2 rfl) ?_
        refine lv_imul hx hb dX7_feed_58 ?_
        refine lv_lshr hx hb dX7_feed_59 rfl ?_
        refine lv_ldc2 hx hb hown k_2 dX7_feed_60 ?_
        refine lv_land hx hb dX7_feed_63 ?_
        refine lv_l2i hx hb dX7_feed_64 rfl ?_
        obtain ⟨g4102, eg4102, hn4103, h⟩ := sti_s h
        refine ka_ist (w1 := [(aM, .inr (7, [.int M_thrown, .int M_status, .ref aM_lane, .ref aM_many, .ref aM_item, .int M_posts, .ref aM_beside, .int M_rounds, .ref aM_round, .int M_read, .ref aM_reads, .ref aM_tape, .int M_taped, .int M_latest, .int M_length, .int M_at, .int M_sort, .int M_from, .int M_till, .int M_fault, .int M_faultAt, .ref aM_fewest, .ref aM_may, .ref aM_then, .ref aM_cases, .ref aM_next, .ref aM_trace, .int M_traced])), (aM_tape, .inl (cI, 300, .inl g4102))]) hx hb hK hP hD hS 1 0 eg4102 rfl rfl hn4103 dX7_feed_65 rfl (fun H locs hP hD hS => ?_)
        refine lv_aload_n hx hb dX7_feed_66 rfl (lv_at hl 0 rfl) ?_
        refine lv_dup hx hb dX7_feed_67 rfl ?_
        refine ka_get (v := .int M_taped) (C := RX7) (T := TX7) (Nf := 28) (ref := "BeepNetModel") hx hb hts hiX7 hown hK hP 0 rfl rfl 12 (by decide) k_0 rfl rfl dX7_feed_68 ?_
        refine lv_iconst (v := 1) hx hb dX7_feed_71 (by decide) ?_
        refine lv_iadd hx hb dX7_feed_72 ?_
        refine ka_put (w1 := [(aM, .inr (7, [.int M_thrown, .int M_status, .ref aM_lane, .ref aM_many, .ref aM_item, .int M_posts, .ref aM_beside, .int M_rounds, .ref aM_round, .int M_read, .ref aM_reads, .ref aM_tape, .int (M_taped + (1 : Int32)), .int M_latest, .int M_length, .int M_at, .int M_sort, .int M_from, .int M_till, .int M_fault, .int M_faultAt, .ref aM_fewest, .ref aM_may, .ref aM_then, .ref aM_cases, .ref aM_next, .ref aM_trace, .int M_traced])), (aM_tape, .inl (cI, 300, .inl g4102))]) (C := RX7) (T := TX7) (Nf := 28) (ref := "BeepNetModel") hx hb hts hiX7 tyX7 tyX7_ok nmX7 hown hK hP hD hS 0 rfl rfl 12 (by decide) k_0 rfl rfl rfl (Nat.le_of_ble_eq_true rfl) dX7_feed_73 rfl (fun H locs hP hD hS => ?_)
        refine lv_iinc (v := x4 + (-1)) (lv' := [(4, .int (x4 + (-1))), (0, .ref aM), (1, .long x1)]) hx hb dX7_feed_76 hl (k := 2) rfl rfl (by decide) rfl (fun ls hl => ?_)
        refine lv_goto (tgt := 40) hx hb dX7_feed_79 (by decide) ?_
        exact ih40 M_thrown (M_taped + (1 : Int32)) g4102 x1 (x4 + (-1)) _ _ _ h hP hD hS (lv_sub hl [1, 2, 0] rfl)
  unfold fX7_feed at h
  refine lv_aload_n hx hb dX7_feed_0 rfl (lv_at hl 0 rfl) ?_
  refine lv_iconst (v := 0) hx hb dX7_feed_1 (by decide) ?_
  refine ka_put (w1 := [(aM, .inr (7, [.int 0, .int M_status, .ref aM_lane, .ref aM_many, .ref aM_item, .int M_posts, .ref aM_beside, .int M_rounds, .ref aM_round, .int M_read, .ref aM_reads, .ref aM_tape, .int M_taped, .int M_latest, .int M_length, .int M_at, .int M_sort, .int M_from, .int M_till, .int M_fault, .int M_faultAt, .ref aM_fewest, .ref aM_may, .ref aM_then, .ref aM_cases, .ref aM_next, .ref aM_trace, .int M_traced])), (aM_tape, .inl (cI, 300, .inl M_tape))]) (C := RX7) (T := TX7) (Nf := 28) (ref := "BeepNetModel") hx hb hts hiX7 tyX7 tyX7_ok nmX7 hown hK hP hD hS 0 rfl rfl 0 (by decide) k_3 rfl rfl rfl (Nat.le_of_ble_eq_true rfl) dX7_feed_2 rfl (fun H locs hP hD hS => ?_)
  refine lv_iload_n hx hb dX7_feed_5 rfl (lv_at hl 2 rfl) ?_
  refine lv_i2l hx hb dX7_feed_6 rfl ?_
  refine lv_lconst (v := 1) hx hb dX7_feed_7 (by decide) ?_
  refine lv_ldc2 hx hb hown k_4 dX7_feed_8 ?_
  obtain ⟨r1, e2, h⟩ := bd1_s h
  refine kc_si (rest := []) (wr := [(aM, .inr (7, [.int 0, .int M_status, .ref aM_lane, .ref aM_many, .ref aM_item, .int M_posts, .ref aM_beside, .int M_rounds, .ref aM_round, .int M_read, .ref aM_reads, .ref aM_tape, .int M_taped, .int M_latest, .int M_length, .int M_at, .int M_sort, .int M_from, .int M_till, .int M_fault, .int M_faultAt, .ref aM_fewest, .ref aM_may, .ref aM_then, .ref aM_cases, .ref aM_next, .ref aM_trace, .int M_traced])), (aM_tape, .inl (cI, 300, .inl M_tape))]) (wF := [(aM, .inr (7, [.int 0, .int M_status, .ref aM_lane, .ref aM_many, .ref aM_item, .int M_posts, .ref aM_beside, .int M_rounds, .ref aM_round, .int M_read, .ref aM_reads, .ref aM_tape, .int M_taped, .int M_latest, .int M_length, .int M_at, .int M_sort, .int M_from, .int M_till, .int M_fault, .int M_faultAt, .ref aM_fewest, .ref aM_may, .ref aM_then, .ref aM_cases, .ref aM_next, .ref aM_trace, .int M_traced])), (aM_tape, .inl (cI, 300, .inl M_tape))]) ⟨hx, hb, hml, hown, hts⟩ (c_X7_in l dC dI cI cJ cZ cA p1.toInt64 1 8 r1 e2) (va_cwS 3 hts gX7_feed_X7_in rfl rfl rfl (by decide +kernel) ⟨Nat.le_of_ble_eq_true rfl, Nat.le_of_ble_eq_true rfl⟩) hK hP hD hS hA [] [0, 1] [0, 1] rfl rfl rfl rfl (by decide) rfl rfl rfl hl.1 rfl (Nat.le_of_ble_eq_true rfl) dX7_feed_11 ⟨Nat.zero_le _, Nat.zero_le _⟩ (fun H locs hP hD hS => ?_)
  refine lv_if_ne (tgt := 20) hx hb dX7_feed_14 (by decide) (fun c3 => ?_) (fun c3 => ?_)
  · have h := ifn c3 h
    refine lv_aload_n hx hb dX7_feed_20 rfl (lv_at hl 0 rfl) ?_
    refine ka_get (v := .int M_taped) (C := RX7) (T := TX7) (Nf := 28) (ref := "BeepNetModel") hx hb hts hiX7 hown hK hP 0 rfl rfl 12 (by decide) k_0 rfl rfl dX7_feed_21 ?_
    refine lv_iload_n hx hb dX7_feed_24 rfl (lv_at hl 2 rfl) ?_
    refine lv_iadd hx hb dX7_feed_25 ?_
    refine lv_sipush (v := 300) hx hb dX7_feed_26 (by decide) ?_
    refine lv_icmp_le (tgt := 35) hx hb dX7_feed_29 (by decide) (fun c4 => ?_) (fun c4 => ?_)
    · have h := ift c4 h
      refine lv_iload_n hx hb dX7_feed_35 rfl (lv_at hl 2 rfl) ?_
      refine lv_iconst (v := 1) hx hb dX7_feed_36 (by decide) ?_
      refine lv_isub hx hb dX7_feed_37 ?_
      refine lv_istore (lv' := [(4, .int (p1 - (1 : Int32))), (0, .ref aM), (1, .long p0), (3, .int p1)]) hx hb dX7_feed_38 hl (by decide) rfl (fun ls hl => ?_)
      exact hC40 FU 0 M_taped M_tape p0 (p1 - (1 : Int32)) _ _ _ h hP hD hS (lv_sub hl [1, 2, 0] rfl)
    · have h := ifn c4 h
      refine lv_ldc hx hb hown k_5 dX7_feed_32 ?_
      obtain ⟨rfl, rfl, rfl, rfl⟩ := sj4 h
      exact hret _ _ _ _ _ rfl rfl hP hD hS dX7_feed_34
  · have h := ift c3 h
    refine lv_ldc hx hb hown k_6 dX7_feed_17 ?_
    obtain ⟨rfl, rfl, rfl, rfl⟩ := sj4 h
    exact hret _ _ _ _ _ rfl rfl hP hD hS dX7_feed_19
