set_option maxHeartbeats 4000000 in
set_option maxRecDepth 100000 in
theorem c_X7_drop (l : Launch) (dC : Nat → ClassId) (dI : Nat → Nat → Nat) (cI cJ cZ cA : ClassId) (aM aM_lane aM_many aM_item aM_beside aM_round aM_reads aM_tape aM_fewest aM_may aM_then aM_cases aM_next aM_trace : Nat) (M_thrown : Int32) (M_status : Int32) (M_posts : Int32) (M_rounds : Int32) (M_read : Int32) (M_taped : Int32) (M_latest : Int32) (M_length : Int32) (M_at : Int32) (M_sort : Int32) (M_from : Int32) (M_till : Int32) (M_fault : Int32) (M_faultAt : Int32) (M_traced : Int32) (M_lane : Nat → Int32) (M_many : Nat → Int32) (p0 : Int32) (rr : Int32) (M_thrown_z : Int32) (M_status_z : Int32) (M_lane_z : Nat → Int32) (h : fX7_drop M_thrown M_status M_lane M_many p0 = some (rr, M_thrown_z, M_status_z, M_lane_z)) : Cti l yX7_drop wsX7_drop rmX7_drop (dC, dI) (tyL cI cJ cZ cA) [(aM, .inr (7, [.int M_thrown, .int M_status, .ref aM_lane, .ref aM_many, .ref aM_item, .int M_posts, .ref aM_beside, .int M_rounds, .ref aM_round, .int M_read, .ref aM_reads, .ref aM_tape, .int M_taped, .int M_latest, .int M_length, .int M_at, .int M_sort, .int M_from, .int M_till, .int M_fault, .int M_faultAt, .ref aM_fewest, .ref aM_may, .ref aM_then, .ref aM_cases, .ref aM_next, .ref aM_trace, .int M_traced])), (aM_lane, .inl (cI, 8, .inl M_lane)), (aM_many, .inl (cI, 8, .inl M_many))] [(aM, .inr (7, [.int M_thrown_z, .int M_status_z, .ref aM_lane, .ref aM_many, .ref aM_item, .int M_posts, .ref aM_beside, .int M_rounds, .ref aM_round, .int M_read, .ref aM_reads, .ref aM_tape, .int M_taped, .int M_latest, .int M_length, .int M_at, .int M_sort, .int M_from, .int M_till, .int M_fault, .int M_faultAt, .ref aM_fewest, .ref aM_may, .ref aM_then, .ref aM_cases, .ref aM_next, .ref aM_trace, .int M_traced])), (aM_lane, .inl (cI, 8, .inl M_lane_z)), (aM_many, .inl (cI, 8, .inl M_many))] [.ref aM, .int p0] rr := by
  refine ct_int (ty := .int) (cc := cX7_drop) (maxL := 2) (by decide) rfl (Nat.le_of_ble_eq_true rfl) ?_
  intro p e s m args below meth c A Q ls hx hb hml hown hts hA hK hP hD hS hl hret
  have hl : lv_has ls 2 [(0, .ref aM), (1, .int p0)] := hl
  have k_0 := hts (.fieldLink RX7 51 "BeepNetModel" "thrown" "I") (by decide +kernel)
  have k_1 := hts (.fieldLink RX7 55 "BeepNetModel" "status" "I") (by decide +kernel)
  have k_2 := hts (.fieldLink RX7 7 "BeepNetModel" "lane" "[I") (by decide +kernel)
  have k_3 := hts (.fieldLink RX7 13 "BeepNetModel" "many" "[I") (by decide +kernel)
  have k_4 := hts (.constant RX7 71 (-1000001)) (by decide +kernel)
  have hiX7 : ∀ w ∈ u_ws RX7 TX7 28, w ∈ wsX7_drop := fun w hw => List.mem_cons_of_mem _ (List.mem_append_right _ hw)
  unfold fX7_drop at h
  refine lv_aload_n hx hb dX7_drop_0 rfl (lv_at hl 0 rfl) ?_
  refine lv_iconst (v := 0) hx hb dX7_drop_1 (by decide) ?_
  refine ka_put (w1 := [(aM, .inr (7, [.int 0, .int M_status, .ref aM_lane, .ref aM_many, .ref aM_item, .int M_posts, .ref aM_beside, .int M_rounds, .ref aM_round, .int M_read, .ref aM_reads, .ref aM_tape, .int M_taped, .int M_latest, .int M_length, .int M_at, .int M_sort, .int M_from, .int M_till, .int M_fault, .int M_faultAt, .ref aM_fewest, .ref aM_may, .ref aM_then, .ref aM_cases, .ref aM_next, .ref aM_trace, .int M_traced])), (aM_lane, .inl (cI, 8, .inl M_lane)), (aM_many, .inl (cI, 8, .inl M_many))]) (C := RX7) (T := TX7) (Nf := 28) (ref := "BeepNetModel") hx hb hts hiX7 tyX7 tyX7_ok nmX7 hown hK hP hD hS 0 rfl rfl 0 (by decide) k_0 rfl rfl rfl (Nat.le_of_ble_eq_true rfl) dX7_drop_2 rfl (fun H locs hP hD hS => ?_)
  refine lv_iload_n hx hb dX7_drop_5 rfl (lv_at hl 1 rfl) ?_
  obtain ⟨r1, e2, h⟩ := bd1_s h
  refine kc_si (rest := []) (wr := [(aM, .inr (7, [.int 0, .int M_status, .ref aM_lane, .ref aM_many, .ref aM_item, .int M_posts, .ref aM_beside, .int M_rounds, .ref aM_round, .int M_read, .ref aM_reads, .ref aM_tape, .int M_taped, .int M_latest, .int M_length, .int M_at, .int M_sort, .int M_from, .int M_till, .int M_fault, .int M_faultAt, .ref aM_fewest, .ref aM_may, .ref aM_then, .ref aM_cases, .ref aM_next, .ref aM_trace, .int M_traced])), (aM_lane, .inl (cI, 8, .inl M_lane)), (aM_many, .inl (cI, 8, .inl M_many))]) (wF := [(aM, .inr (7, [.int 0, .int M_status, .ref aM_lane, .ref aM_many, .ref aM_item, .int M_posts, .ref aM_beside, .int M_rounds, .ref aM_round, .int M_read, .ref aM_reads, .ref aM_tape, .int M_taped, .int M_latest, .int M_length, .int M_at, .int M_sort, .int M_from, .int M_till, .int M_fault, .int M_faultAt, .ref aM_fewest, .ref aM_may, .ref aM_then, .ref aM_cases, .ref aM_next, .ref aM_trace, .int M_traced])), (aM_lane, .inl (cI, 8, .inl M_lane)), (aM_many, .inl (cI, 8, .inl M_many))]) ⟨hx, hb, hml, hown, hts⟩ (c_X7_isSheet l dC dI cI cJ cZ cA p0 r1 e2) (va_cwS 1 hts gX7_drop_X7_isSheet rfl rfl rfl (by decide +kernel) ⟨Nat.le_of_ble_eq_true rfl, Nat.le_of_ble_eq_true rfl⟩) hK hP hD hS hA [] [0, 1, 2] [0, 1, 2] rfl rfl rfl rfl (by decide) rfl rfl rfl hl.1 rfl (Nat.le_of_ble_eq_true rfl) dX7_drop_6 ⟨Nat.zero_le _, Nat.zero_le _⟩ (fun H locs hP hD hS => ?_)
  refine lv_if_ne (tgt := 15) hx hb dX7_drop_9 (by decide) (fun c3 => ?_) (fun c3 => ?_)
  · have h := ifn c3 h
    refine lv_aload_n hx hb dX7_drop_15 rfl (lv_at hl 0 rfl) ?_
    refine lv_iconst (v := 0) hx hb dX7_drop_16 (by decide) ?_
    refine ka_put (w1 := [(aM, .inr (7, [.int 0, .int 0, .ref aM_lane, .ref aM_many, .ref aM_item, .int M_posts, .ref aM_beside, .int M_rounds, .ref aM_round, .int M_read, .ref aM_reads, .ref aM_tape, .int M_taped, .int M_latest, .int M_length, .int M_at, .int M_sort, .int M_from, .int M_till, .int M_fault, .int M_faultAt, .ref aM_fewest, .ref aM_may, .ref aM_then, .ref aM_cases, .ref aM_next, .ref aM_trace, .int M_traced])), (aM_lane, .inl (cI, 8, .inl M_lane)), (aM_many, .inl (cI, 8, .inl M_many))]) (C := RX7) (T := TX7) (Nf := 28) (ref := "BeepNetModel") hx hb hts hiX7 tyX7 tyX7_ok nmX7 hown hK hP hD hS 0 rfl rfl 1 (by decide) k_1 rfl rfl rfl (Nat.le_of_ble_eq_true rfl) dX7_drop_17 rfl (fun H locs hP hD hS => ?_)
    refine lv_aload_n hx hb dX7_drop_20 rfl (lv_at hl 0 rfl) ?_
    refine ka_get (v := .ref aM_lane) (C := RX7) (T := TX7) (Nf := 28) (ref := "BeepNetModel") hx hb hts hiX7 hown hK hP 0 rfl rfl 2 (by decide) k_2 rfl rfl dX7_drop_21 ?_
    refine lv_iload_n hx hb dX7_drop_24 rfl (lv_at hl 1 rfl) ?_
    obtain ⟨v4, ev4, hn5, h⟩ := ldx_s h
    refine ka_ild hx hb hK hP 1 0 ev4 rfl rfl hn5 dX7_drop_25 ?_
    refine lv_if_ge (tgt := 35) hx hb dX7_drop_26 (by decide) (fun c6 => ?_) (fun c6 => ?_)
    · have h := ift c6 h
      refine lv_aload_n hx hb dX7_drop_35 rfl (lv_at hl 0 rfl) ?_
      refine ka_get (v := .ref aM_lane) (C := RX7) (T := TX7) (Nf := 28) (ref := "BeepNetModel") hx hb hts hiX7 hown hK hP 0 rfl rfl 2 (by decide) k_2 rfl rfl dX7_drop_36 ?_
      refine lv_iload_n hx hb dX7_drop_39 rfl (lv_at hl 1 rfl) ?_
      refine lv_iconst (v := -1) hx hb dX7_drop_40 (by decide) ?_
      obtain ⟨g7, eg7, hn8, h⟩ := sti_s h
      refine ka_ist (w1 := [(aM, .inr (7, [.int 0, .int 0, .ref aM_lane, .ref aM_many, .ref aM_item, .int M_posts, .ref aM_beside, .int M_rounds, .ref aM_round, .int M_read, .ref aM_reads, .ref aM_tape, .int M_taped, .int M_latest, .int M_length, .int M_at, .int M_sort, .int M_from, .int M_till, .int M_fault, .int M_faultAt, .ref aM_fewest, .ref aM_may, .ref aM_then, .ref aM_cases, .ref aM_next, .ref aM_trace, .int M_traced])), (aM_lane, .inl (cI, 8, .inl g7)), (aM_many, .inl (cI, 8, .inl M_many))]) hx hb hK hP hD hS 1 0 eg7 rfl rfl hn8 dX7_drop_41 rfl (fun H locs hP hD hS => ?_)
      refine lv_aload_n hx hb dX7_drop_42 rfl (lv_at hl 0 rfl) ?_
      refine ka_get (v := .ref aM_many) (C := RX7) (T := TX7) (Nf := 28) (ref := "BeepNetModel") hx hb hts hiX7 hown hK hP 0 rfl rfl 3 (by decide) k_3 rfl rfl dX7_drop_43 ?_
      refine lv_iload_n hx hb dX7_drop_46 rfl (lv_at hl 1 rfl) ?_
      obtain ⟨v9, ev9, hn10, h⟩ := ldx_s h
      refine ka_ild hx hb hK hP 2 0 ev9 rfl rfl hn10 dX7_drop_47 ?_
      obtain ⟨rfl, rfl, rfl, rfl⟩ := sj4 h
      exact hret _ _ _ _ _ rfl rfl hP hD hS dX7_drop_48
    · have h := ifn c6 h
      refine lv_aload_n hx hb dX7_drop_29 rfl (lv_at hl 0 rfl) ?_
      refine lv_iconst (v := 1) hx hb dX7_drop_30 (by decide) ?_
      obtain ⟨r11, M_status_12, e13, h⟩ := bd2_s h
      refine kc_vi (rest := []) (wr := [(aM_lane, .inl (cI, 8, .inl M_lane)), (aM_many, .inl (cI, 8, .inl M_many))]) (wF := [(aM, .inr (7, [.int 0, .int M_status_12, .ref aM_lane, .ref aM_many, .ref aM_item, .int M_posts, .ref aM_beside, .int M_rounds, .ref aM_round, .int M_read, .ref aM_reads, .ref aM_tape, .int M_taped, .int M_latest, .int M_length, .int M_at, .int M_sort, .int M_from, .int M_till, .int M_fault, .int M_faultAt, .ref aM_fewest, .ref aM_may, .ref aM_then, .ref aM_cases, .ref aM_next, .ref aM_trace, .int M_traced])), (aM_lane, .inl (cI, 8, .inl M_lane)), (aM_many, .inl (cI, 8, .inl M_many))]) ⟨hx, hb, hml, hown, hts⟩ (c_X7_found l dC dI cI cJ cZ cA aM aM_lane aM_many aM_item aM_beside aM_round aM_reads aM_tape aM_fewest aM_may aM_then aM_cases aM_next aM_trace 0 0 M_posts M_rounds M_read M_taped M_latest M_length M_at M_sort M_from M_till M_fault M_faultAt M_traced 1 r11 M_status_12 e13) (cwV 1 hts gX7_drop_X7_found rfl rfl rfl (by decide +kernel) ⟨Nat.le_of_ble_eq_true rfl, Nat.le_of_ble_eq_true rfl⟩) hK hP hD hS hA [0] [1, 2] [2, 0, 1] 0 rfl rfl rfl rfl (by decide) rfl rfl rfl rfl rfl rfl hl.1 rfl (Nat.le_of_ble_eq_true rfl) dX7_drop_31 ⟨Nat.zero_le _, Nat.zero_le _⟩ (fun H locs hP hD hS => ?_)
      obtain ⟨rfl, rfl, rfl, rfl⟩ := sj4 h
      exact hret _ _ _ _ _ rfl rfl hP hD hS dX7_drop_34
  · have h := ift c3 h
    refine lv_ldc hx hb hown k_4 dX7_drop_12 ?_
    obtain ⟨rfl, rfl, rfl, rfl⟩ := sj4 h
    exact hret _ _ _ _ _ rfl rfl hP hD hS dX7_drop_14
set_option maxHeartbeats 4000000 in
set_option maxRecDepth 100000 in
theorem c_X7_isPost (l : Launch) (dC : Nat → ClassId) (dI : Nat → Nat → Nat) (cI cJ cZ cA : ClassId) (aM aM_lane aM_many aM_item aM_beside aM_round aM_reads aM_tape aM_fewest aM_may aM_then aM_cases aM_next aM_trace : Nat) (M_thrown : Int32) (M_status : Int32) (M_posts : Int32) (M_rounds : Int32) (M_read : Int32) (M_taped : Int32) (M_latest : Int32) (M_length : Int32) (M_at : Int32) (M_sort : Int32) (M_from : Int32) (M_till : Int32) (M_fault : Int32) (M_faultAt : Int32) (M_traced : Int32) (p0 : Int32) (rr : Int32) (h : fX7_isPost M_posts p0 = some rr) : Cti l yX7_isPost wsX7_isPost rmX7_isPost (dC, dI) (tyL cI cJ cZ cA) [(aM, .inr (7, [.int M_thrown, .int M_status, .ref aM_lane, .ref aM_many, .ref aM_item, .int M_posts, .ref aM_beside, .int M_rounds, .ref aM_round, .int M_read, .ref aM_reads, .ref aM_tape, .int M_taped, .int M_latest, .int M_length, .int M_at, .int M_sort, .int M_from, .int M_till, .int M_fault, .int M_faultAt, .ref aM_fewest, .ref aM_may, .ref aM_then, .ref aM_cases, .ref aM_next, .ref aM_trace, .int M_traced]))] [(aM, .inr (7, [.int M_thrown, .int M_status, .ref aM_lane, .ref aM_many, .ref aM_item, .int M_posts, .ref aM_beside, .int M_rounds, .ref aM_round, .int M_read, .ref aM_reads, .ref aM_tape, .int M_taped, .int M_latest, .int M_length, .int M_at, .int M_sort, .int M_from, .int M_till, .int M_fault, .int M_faultAt, .ref aM_fewest, .ref aM_may, .ref aM_then, .ref aM_cases, .ref aM_next, .ref aM_trace, .int M_traced]))] [.ref aM, .int p0] rr := by
  refine ct_int (ty := .boolean) (cc := cX7_isPost) (maxL := 2) (by decide) rfl (Nat.le_of_ble_eq_true rfl) ?_
  intro p e s m args below meth c A Q ls hx hb hml hown hts hA hK hP hD hS hl hret
  have hl : lv_has ls 2 [(0, .ref aM), (1, .int p0)] := hl
  have k_0 := hts (.fieldLink RX7 76 "BeepNetModel" "posts" "I") (by decide +kernel)
  have hiX7 : ∀ w ∈ u_ws RX7 TX7 28, w ∈ wsX7_isPost := fun w hw => List.mem_cons_of_mem _ (List.mem_append_right _ hw)
  unfold fX7_isPost at h
  refine lv_iload_n hx hb dX7_isPost_0 rfl (lv_at hl 1 rfl) ?_
  refine lv_i2l hx hb dX7_isPost_1 rfl ?_
  refine lv_lconst (v := 0) hx hb dX7_isPost_2 (by decide) ?_
  refine lv_aload_n hx hb dX7_isPost_3 rfl (lv_at hl 0 rfl) ?_
  refine ka_get (v := .int M_posts) (C := RX7) (T := TX7) (Nf := 28) (ref := "BeepNetModel") hx hb hts hiX7 hown hK hP 0 rfl rfl 5 (by decide) k_0 rfl rfl dX7_isPost_4 ?_
  refine lv_iconst (v := 1) hx hb dX7_isPost_7 (by decide) ?_
  refine lv_isub hx hb dX7_isPost_8 ?_
  refine lv_i2l hx hb dX7_isPost_9 rfl ?_
  obtain ⟨r1, e2, h⟩ := bd1_s h
  refine kc_si (rest := []) (wr := [(aM, .inr (7, [.int M_thrown, .int M_status, .ref aM_lane, .ref aM_many, .ref aM_item, .int M_posts, .ref aM_beside, .int M_rounds, .ref aM_round, .int M_read, .ref aM_reads, .ref aM_tape, .int M_taped, .int M_latest, .int M_length, .int M_at, .int M_sort, .int M_from, .int M_till, .int M_fault, .int M_faultAt, .ref aM_fewest, .ref aM_may, .ref aM_then, .ref aM_cases, .ref aM_next, .ref aM_trace, .int M_traced]))]) (wF := [(aM, .inr (7, [.int M_thrown, .int M_status, .ref aM_lane, .ref aM_many, .ref aM_item, .int M_posts, .ref aM_beside, .int M_rounds, .ref aM_round, .int M_read, .ref aM_reads, .ref aM_tape, .int M_taped, .int M_latest, .int M_length, .int M_at, .int M_sort, .int M_from, .int M_till, .int M_fault, .int M_faultAt, .ref aM_fewest, .ref aM_may, .ref aM_then, .ref aM_cases, .ref aM_next, .ref aM_trace, .int M_traced]))]) ⟨hx, hb, hml, hown, hts⟩ (c_X7_in l dC dI cI cJ cZ cA p0.toInt64 0 ((M_posts - (1 : Int32)).toInt64) r1 e2) (va_cwS 3 hts gX7_isPost_X7_in rfl rfl rfl (by decide +kernel) ⟨Nat.le_of_ble_eq_true rfl, Nat.le_of_ble_eq_true rfl⟩) hK hP hD hS hA [] [0] [0] rfl rfl rfl rfl (by decide) rfl rfl rfl hl.1 rfl (Nat.le_of_ble_eq_true rfl) dX7_isPost_10 ⟨Nat.zero_le _, Nat.zero_le _⟩ (fun H locs hP hD hS => ?_)
  obtain ⟨hz3, h⟩ := zrx_s h
  obtain rfl := sj1 h
  exact hret _ _ _ _ _ rfl hz3 hP hD hS dX7_isPost_13
set_option maxHeartbeats 4000000 in
set_option maxRecDepth 100000 in
theorem c_X7_size (l : Launch) (dC : Nat → ClassId) (dI : Nat → Nat → Nat) (cI cJ cZ cA : ClassId) (p0 : Int32) (rr : Int32) (h : fX7_size p0 = some rr) : Cti l yX7_size wsX7_size rmX7_size (dC, dI) (tyL cI cJ cZ cA) [] [] [.int p0] rr := by
  refine ct_int (ty := .int) (cc := cX7_size) (maxL := 3) (by decide) rfl (Nat.le_of_ble_eq_true rfl) ?_
  intro p e s m args below meth c A Q ls hx hb hml hown hts hA hK hP hD hS hl hret
  have hl : lv_has ls 3 [(0, .int p0)] := hl
  have hC4 : ∀ (n : Nat) (x0 : Int32) (x1 : Int32) (x2 : Int32) (H : Heap) (locs : List Loc) (ls : Array Slot), fX7_size_c4 n x0 x1 x2 = some rr → va_P (dC, dI) vwCl [] H → va_D A [] → va_S A s.heap H locs → lv_has ls 3 [(0, .int x0), (1, .int x1), (2, .int x2)] → W p l e rmX7_size s m args below meth c H locs 0 0 Q (F0 m 4 ls []) := by
    intro n
    induction n with
    | zero => intro x0 x1 x2 H locs ls h; rw [fX7_size_c4] at h; cases h
    | succ n4 ih4 =>
      intro x0 x1 x2 H locs ls h hP hD hS hl
      rw [fX7_size_c4] at h
      refine lv_iload_n hx hb dX7_size_4 rfl (lv_at hl 2 rfl) ?_
      refine lv_bipush (v := 8) hx hb dX7_size_5 (by decide) ?_
      refine lv_icmp_ge (tgt := 24) hx hb dX7_size_7 (by decide) (fun c501 => ?_) (fun c501 => ?_)
      · have h := ift c501 h
        refine lv_iload_n hx hb dX7_size_24 rfl (lv_at hl 1 rfl) ?_
        obtain rfl := sj1 h
        exact hret _ _ _ _ _ rfl rfl hP hD hS dX7_size_25
      · have h := ifn c501 h
        refine lv_iload_n hx hb dX7_size_10 rfl (lv_at hl 1 rfl) ?_
        refine lv_iload_n hx hb dX7_size_11 rfl (lv_at hl 0 rfl) ?_
        refine lv_iload_n hx hb dX7_size_12 rfl (lv_at hl 2 rfl) ?_
        refine lv_ishr hx hb dX7_size_13 ?_
        refine lv_iconst (v := 1) hx hb dX7_size_14 (by decide) ?_
        refine lv_iand hx hb dX7_size_15 ?_
        refine lv_iadd hx hb dX7_size_16 ?_
        obtain ⟨v502, ev502, h⟩ := bnd_s h
        refine kn_i ev502 ?_
        refine lv_istore_n (lv' := [(1, .int v502), (0, .int x0), (2, .int x2)]) hx hb dX7_size_17 rfl hl (by decide) rfl (fun ls hl => ?_)
        refine lv_iinc (v := x2 + 1) (lv' := [(2, .int (x2 + 1)), (1, .int v502), (0, .int x0)]) hx hb dX7_size_18 hl (k := 2) rfl rfl (by decide) rfl (fun ls hl => ?_)
        refine lv_goto (tgt := 4) hx hb dX7_size_21 (by decide) ?_
        exact ih4 x0 v502 (x2 + 1) _ _ _ h hP hD hS (lv_sub hl [2, 1, 0] rfl)
  unfold fX7_size at h
  refine lv_iconst (v := 0) hx hb dX7_size_0 (by decide) ?_
  refine lv_istore_n (lv' := [(1, .int 0), (0, .int p0)]) hx hb dX7_size_1 rfl hl (by decide) rfl (fun ls hl => ?_)
  refine lv_iconst (v := 0) hx hb dX7_size_2 (by decide) ?_
  refine lv_istore_n (lv' := [(2, .int 0), (1, .int 0), (0, .int p0)]) hx hb dX7_size_3 rfl hl (by decide) rfl (fun ls hl => ?_)
  exact hC4 FU p0 0 0 _ _ _ h hP hD hS (lv_sub hl [2, 1, 0] rfl)
set_option maxHeartbeats 4000000 in
set_option maxRecDepth 100000 in
theorem c_X7_all (l : Launch) (dC : Nat → ClassId) (dI : Nat → Nat → Nat) (cI cJ cZ cA : ClassId) (aM aM_lane aM_many aM_item aM_beside aM_round aM_reads aM_tape aM_fewest aM_may aM_then aM_cases aM_next aM_trace : Nat) (M_thrown : Int32) (M_status : Int32) (M_posts : Int32) (M_rounds : Int32) (M_read : Int32) (M_taped : Int32) (M_latest : Int32) (M_length : Int32) (M_at : Int32) (M_sort : Int32) (M_from : Int32) (M_till : Int32) (M_fault : Int32) (M_faultAt : Int32) (M_traced : Int32) (rr : Int32) (h : fX7_all M_posts = some rr) : Cti l yX7_all wsX7_all rmX7_all (dC, dI) (tyL cI cJ cZ cA) [(aM, .inr (7, [.int M_thrown, .int M_status, .ref aM_lane, .ref aM_many, .ref aM_item, .int M_posts, .ref aM_beside, .int M_rounds, .ref aM_round, .int M_read, .ref aM_reads, .ref aM_tape, .int M_taped, .int M_latest, .int M_length, .int M_at, .int M_sort, .int M_from, .int M_till, .int M_fault, .int M_faultAt, .ref aM_fewest, .ref aM_may, .ref aM_then, .ref aM_cases, .ref aM_next, .ref aM_trace, .int M_traced]))] [(aM, .inr (7, [.int M_thrown, .int M_status, .ref aM_lane, .ref aM_many, .ref aM_item, .int M_posts, .ref aM_beside, .int M_rounds, .ref aM_round, .int M_read, .ref aM_reads, .ref aM_tape, .int M_taped, .int M_latest, .int M_length, .int M_at, .int M_sort, .int M_from, .int M_till, .int M_fault, .int M_faultAt, .ref aM_fewest, .ref aM_may, .ref aM_then, .ref aM_cases, .ref aM_next, .ref aM_trace, .int M_traced]))] [.ref aM] rr := by
  refine ct_int (ty := .int) (cc := cX7_all) (maxL := 1) (by decide) rfl (Nat.le_of_ble_eq_true rfl) ?_
  intro p e s m args below meth c A Q ls hx hb hml hown hts hA hK hP hD hS hl hret
  have hl : lv_has ls 1 [(0, .ref aM)] := hl
  have k_0 := hts (.fieldLink RX7 76 "BeepNetModel" "posts" "I") (by decide +kernel)
  have hiX7 : ∀ w ∈ u_ws RX7 TX7 28, w ∈ wsX7_all := fun w hw => List.mem_cons_of_mem _ (List.mem_append_right _ hw)
  unfold fX7_all at h
  refine lv_iconst (v := 1) hx hb dX7_all_0 (by decide) ?_
  refine lv_aload_n hx hb dX7_all_1 rfl (lv_at hl 0 rfl) ?_
  refine ka_get (v := .int M_posts) (C := RX7) (T := TX7) (Nf := 28) (ref := "BeepNetModel") hx hb hts hiX7 hown hK hP 0 rfl rfl 5 (by decide) k_0 rfl rfl dX7_all_2 ?_
  refine lv_ishl hx hb dX7_all_5 ?_
  refine lv_iconst (v := 1) hx hb dX7_all_6 (by decide) ?_
  refine lv_isub hx hb dX7_all_7 ?_
  obtain rfl := sj1 h
  exact hret _ _ _ _ _ rfl rfl hP hD hS dX7_all_8
set_option maxHeartbeats 4000000 in
set_option maxRecDepth 100000 in
theorem c_X7_post (l : Launch) (dC : Nat → ClassId) (dI : Nat → Nat → Nat) (cI cJ cZ cA : ClassId) (aM aM_lane aM_many aM_item aM_beside aM_round aM_reads aM_tape aM_fewest aM_may aM_then aM_cases aM_next aM_trace : Nat) (M_thrown : Int32) (M_status : Int32) (M_posts : Int32) (M_rounds : Int32) (M_read : Int32) (M_taped : Int32) (M_latest : Int32) (M_length : Int32) (M_at : Int32) (M_sort : Int32) (M_from : Int32) (M_till : Int32) (M_fault : Int32) (M_faultAt : Int32) (M_traced : Int32) (rr : Int32) (M_thrown_z : Int32) (M_posts_z : Int32) (h : fX7_post M_thrown M_posts = some (rr, M_thrown_z, M_posts_z)) : Cti l yX7_post wsX7_post rmX7_post (dC, dI) (tyL cI cJ cZ cA) [(aM, .inr (7, [.int M_thrown, .int M_status, .ref aM_lane, .ref aM_many, .ref aM_item, .int M_posts, .ref aM_beside, .int M_rounds, .ref aM_round, .int M_read, .ref aM_reads, .ref aM_tape, .int M_taped, .int M_latest, .int M_length, .int M_at, .int M_sort, .int M_from, .int M_till, .int M_fault, .int M_faultAt, .ref aM_fewest, .ref aM_may, .ref aM_then, .ref aM_cases, .ref aM_next, .ref aM_trace, .int M_traced]))] [(aM, .inr (7, [.int M_thrown_z, .int M_status, .ref aM_lane, .ref aM_many, .ref aM_item, .int M_posts_z, .ref aM_beside, .int M_rounds, .ref aM_round, .int M_read, .ref aM_reads, .ref aM_tape, .int M_taped, .int M_latest, .int M_length, .int M_at, .int M_sort, .int M_from, .int M_till, .int M_fault, .int M_faultAt, .ref aM_fewest, .ref aM_may, .ref aM_then, .ref aM_cases, .ref aM_next, .ref aM_trace, .int M_traced]))] [.ref aM] rr := by
  refine ct_int (ty := .int) (cc := cX7_post) (maxL := 1) (by decide) rfl (Nat.le_of_ble_eq_true rfl) ?_
  intro p e s m args below meth c A Q ls hx hb hml hown hts hA hK hP hD hS hl hret
  have hl : lv_has ls 1 [(0, .ref aM)] := hl
  have k_0 := hts (.fieldLink RX7 51 "BeepNetModel" "thrown" "I") (by decide +kernel)
  have k_1 := hts (.fieldLink RX7 76 "BeepNetModel" "posts" "I") (by decide +kernel)
  have k_2 := hts (.constant RX7 79 (-1000003)) (by decide +kernel)
  have hiX7 : ∀ w ∈ u_ws RX7 TX7 28, w ∈ wsX7_post := fun w hw => List.mem_cons_of_mem _ (List.mem_append_right _ hw)
  unfold fX7_post at h
  refine lv_aload_n hx hb dX7_post_0 rfl (lv_at hl 0 rfl) ?_
  refine lv_iconst (v := 0) hx hb dX7_post_1 (by decide) ?_
  refine ka_put (w1 := [(aM, .inr (7, [.int 0, .int M_status, .ref aM_lane, .ref aM_many, .ref aM_item, .int M_posts, .ref aM_beside, .int M_rounds, .ref aM_round, .int M_read, .ref aM_reads, .ref aM_tape, .int M_taped, .int M_latest, .int M_length, .int M_at, .int M_sort, .int M_from, .int M_till, .int M_fault, .int M_faultAt, .ref aM_fewest, .ref aM_may, .ref aM_then, .ref aM_cases, .ref aM_next, .ref aM_trace, .int M_traced]))]) (C := RX7) (T := TX7) (Nf := 28) (ref := "BeepNetModel") hx hb hts hiX7 tyX7 tyX7_ok nmX7 hown hK hP hD hS 0 rfl rfl 0 (by decide) k_0 rfl rfl rfl (Nat.le_of_ble_eq_true rfl) dX7_post_2 rfl (fun H locs hP hD hS => ?_)
  refine lv_aload_n hx hb dX7_post_5 rfl (lv_at hl 0 rfl) ?_
  refine ka_get (v := .int M_posts) (C := RX7) (T := TX7) (Nf := 28) (ref := "BeepNetModel") hx hb hts hiX7 hown hK hP 0 rfl rfl 5 (by decide) k_1 rfl rfl dX7_post_6 ?_
  refine lv_bipush (v := 8) hx hb dX7_post_9 (by decide) ?_
  refine lv_icmp_ne (tgt := 17) hx hb dX7_post_11 (by decide) (fun c1 => ?_) (fun c1 => ?_)
  · have h := ifn c1 h
    refine lv_aload_n hx hb dX7_post_17 rfl (lv_at hl 0 rfl) ?_
    refine lv_dup hx hb dX7_post_18 rfl ?_
    refine ka_get (v := .int M_posts) (C := RX7) (T := TX7) (Nf := 28) (ref := "BeepNetModel") hx hb hts hiX7 hown hK hP 0 rfl rfl 5 (by decide) k_1 rfl rfl dX7_post_19 ?_
    refine lv_iconst (v := 1) hx hb dX7_post_22 (by decide) ?_
    refine lv_iadd hx hb dX7_post_23 ?_
    refine ka_put (w1 := [(aM, .inr (7, [.int 0, .int M_status, .ref aM_lane, .ref aM_many, .ref aM_item, .int (M_posts + (1 : Int32)), .ref aM_beside, .int M_rounds, .ref aM_round, .int M_read, .ref aM_reads, .ref aM_tape, .int M_taped, .int M_latest, .int M_length, .int M_at, .int M_sort, .int M_from, .int M_till, .int M_fault, .int M_faultAt, .ref aM_fewest, .ref aM_may, .ref aM_then, .ref aM_cases, .ref aM_next, .ref aM_trace, .int M_traced]))]) (C := RX7) (T := TX7) (Nf := 28) (ref := "BeepNetModel") hx hb hts hiX7 tyX7 tyX7_ok nmX7 hown hK hP hD hS 0 rfl rfl 5 (by decide) k_1 rfl rfl rfl (Nat.le_of_ble_eq_true rfl) dX7_post_24 rfl (fun H locs hP hD hS => ?_)
    refine lv_aload_n hx hb dX7_post_27 rfl (lv_at hl 0 rfl) ?_
    refine ka_get (v := .int (M_posts + (1 : Int32))) (C := RX7) (T := TX7) (Nf := 28) (ref := "BeepNetModel") hx hb hts hiX7 hown hK hP 0 rfl rfl 5 (by decide) k_1 rfl rfl dX7_post_28 ?_
    refine lv_iconst (v := 1) hx hb dX7_post_31 (by decide) ?_
    refine lv_isub hx hb dX7_post_32 ?_
    obtain ⟨rfl, rfl, rfl⟩ := sj3 h
    exact hret _ _ _ _ _ rfl rfl hP hD hS dX7_post_33
  · have h := ift c1 h
    refine lv_ldc hx hb hown k_2 dX7_post_14 ?_
    obtain ⟨rfl, rfl, rfl⟩ := sj3 h
    exact hret _ _ _ _ _ rfl rfl hP hD hS dX7_post_16
set_option maxHeartbeats 4000000 in
set_option maxRecDepth 100000 in
theorem c_X7_join (l : Launch) (dC : Nat → ClassId) (dI : Nat → Nat → Nat) (cI cJ cZ cA : ClassId) (aM aM_lane aM_many aM_item aM_beside aM_round aM_reads aM_tape aM_fewest aM_may aM_then aM_cases aM_next aM_trace : Nat) (M_thrown : Int32) (M_status : Int32) (M_posts : Int32) (M_rounds : Int32) (M_read : Int32) (M_taped : Int32) (M_latest : Int32) (M_length : Int32) (M_at : Int32) (M_sort : Int32) (M_from : Int32) (M_till : Int32) (M_fault : Int32) (M_faultAt : Int32) (M_traced : Int32) (M_beside : Nat → Int32) (p0 : Int32) (p1 : Int32) (rr : Int32) (M_thrown_z : Int32) (M_beside_z : Nat → Int32) (h : fX7_join M_thrown M_posts M_beside p0 p1 = some (rr, M_thrown_z, M_beside_z)) : Cti l yX7_join wsX7_join rmX7_join (dC, dI) (tyL cI cJ cZ cA) [(aM, .inr (7, [.int M_thrown, .int M_status, .ref aM_lane, .ref aM_many, .ref aM_item, .int M_posts, .ref aM_beside, .int M_rounds, .ref aM_round, .int M_read, .ref aM_reads, .ref aM_tape, .int M_taped, .int M_latest, .int M_length, .int M_at, .int M_sort, .int M_from, .int M_till, .int M_fault, .int M_faultAt, .ref aM_fewest, .ref aM_may, .ref aM_then, .ref aM_cases, .ref aM_next, .ref aM_trace, .int M_traced])), (aM_beside, .inl (cI, 8, .inl M_beside))] [(aM, .inr (7, [.int M_thrown_z, .int M_status, .ref aM_lane, .ref aM_many, .ref aM_item, .int M_posts, .ref aM_beside, .int M_rounds, .ref aM_round, .int M_read, .ref aM_reads, .ref aM_tape, .int M_taped, .int M_latest, .int M_length, .int M_at, .int M_sort, .int M_from, .int M_till, .int M_fault, .int M_faultAt, .ref aM_fewest, .ref aM_may, .ref aM_then, .ref aM_cases, .ref aM_next, .ref aM_trace, .int M_traced])), (aM_beside, .inl (cI, 8, .inl M_beside_z))] [.ref aM, .int p0, .int p1] rr := by
  refine ct_int (ty := .int) (cc := cX7_join) (maxL := 4) (by decide) rfl (Nat.le_of_ble_eq_true rfl) ?_
  intro p e s m args below meth c A Q ls hx hb hml hown hts hA hK hP hD hS hl hret
  have hl : lv_has ls 4 [(0, .ref aM), (1, .int p0), (2, .int p1)] := hl
  have k_0 := hts (.fieldLink RX7 19 "BeepNetModel" "beside" "[I") (by decide +kernel)
  have k_1 := hts (.fieldLink RX7 51 "BeepNetModel" "thrown" "I") (by decide +kernel)
  have k_2 := hts (.constant RX7 71 (-1000001)) (by decide +kernel)
  have hiX7 : ∀ w ∈ u_ws RX7 TX7 28, w ∈ wsX7_join := fun w hw => List.mem_cons_of_mem _ (List.mem_append_right _ hw)
  have hC48 : ∀ (M_thrown : Int32) (M_beside : Nat → Int32) (x1 : Int32) (x2 : Int32) (t0 : Int32) (H : Heap) (locs : List Loc) (ls : Array Slot), fX7_join_c48 M_posts M_thrown M_beside x1 x2 t0 = some (rr, M_thrown_z, M_beside_z) → va_P (dC, dI) vwCl [(aM, .inr (7, [.int M_thrown, .int M_status, .ref aM_lane, .ref aM_many, .ref aM_item, .int M_posts, .ref aM_beside, .int M_rounds, .ref aM_round, .int M_read, .ref aM_reads, .ref aM_tape, .int M_taped, .int M_latest, .int M_length, .int M_at, .int M_sort, .int M_from, .int M_till, .int M_fault, .int M_faultAt, .ref aM_fewest, .ref aM_may, .ref aM_then, .ref aM_cases, .ref aM_next, .ref aM_trace, .int M_traced])), (aM_beside, .inl (cI, 8, .inl M_beside))] H → va_D A [(aM, .inr (7, [.int M_thrown, .int M_status, .ref aM_lane, .ref aM_many, .ref aM_item, .int M_posts, .ref aM_beside, .int M_rounds, .ref aM_round, .int M_read, .ref aM_reads, .ref aM_tape, .int M_taped, .int M_latest, .int M_length, .int M_at, .int M_sort, .int M_from, .int M_till, .int M_fault, .int M_faultAt, .ref aM_fewest, .ref aM_may, .ref aM_then, .ref aM_cases, .ref aM_next, .ref aM_trace, .int M_traced])), (aM_beside, .inl (cI, 8, .inl M_beside))] → va_S A s.heap H locs → lv_has ls 4 [(0, .ref aM), (1, .int x1), (2, .int x2)] → W p l e rmX7_join s m args below meth c H locs 0 0 Q (F0 m 48 ls [.int t0]) := by
    intro M_thrown M_beside x1 x2 t0 H locs ls h hP hD hS hl
    unfold fX7_join_c48 at h
    refine lv_istore_n (lv' := [(3, .int t0), (0, .ref aM), (1, .int x1), (2, .int x2)]) hx hb dX7_join_48 rfl hl (by decide) rfl (fun ls hl => ?_)
    refine lv_aload_n hx hb dX7_join_49 rfl (lv_at hl 1 rfl) ?_
    refine ka_get (v := .ref aM_beside) (C := RX7) (T := TX7) (Nf := 28) (ref := "BeepNetModel") hx hb hts hiX7 hown hK hP 0 rfl rfl 6 (by decide) k_0 rfl rfl dX7_join_50 ?_
    refine lv_iload_n hx hb dX7_join_53 rfl (lv_at hl 2 rfl) ?_
    refine lv_dup2_11 hx hb dX7_join_54 rfl rfl ?_
    obtain ⟨v4901, ev4901, hn4902, h⟩ := ldx_s h
    refine ka_ild hx hb hK hP 1 0 ev4901 rfl rfl hn4902 dX7_join_55 ?_
    refine lv_iconst (v := 1) hx hb dX7_join_56 (by decide) ?_
    refine lv_iload_n hx hb dX7_join_57 rfl (lv_at hl 3 rfl) ?_
    refine lv_ishl hx hb dX7_join_58 ?_
    refine lv_ior hx hb dX7_join_59 ?_
    obtain ⟨g4903, eg4903, hn4904, h⟩ := sti_s h
    refine ka_ist (w1 := [(aM, .inr (7, [.int M_thrown, .int M_status, .ref aM_lane, .ref aM_many, .ref aM_item, .int M_posts, .ref aM_beside, .int M_rounds, .ref aM_round, .int M_read, .ref aM_reads, .ref aM_tape, .int M_taped, .int M_latest, .int M_length, .int M_at, .int M_sort, .int M_from, .int M_till, .int M_fault, .int M_faultAt, .ref aM_fewest, .ref aM_may, .ref aM_then, .ref aM_cases, .ref aM_next, .ref aM_trace, .int M_traced])), (aM_beside, .inl (cI, 8, .inl g4903))]) hx hb hK hP hD hS 1 0 eg4903 rfl rfl hn4904 dX7_join_60 rfl (fun H locs hP hD hS => ?_)
    refine lv_aload_n hx hb dX7_join_61 rfl (lv_at hl 1 rfl) ?_
    refine ka_get (v := .ref aM_beside) (C := RX7) (T := TX7) (Nf := 28) (ref := "BeepNetModel") hx hb hts hiX7 hown hK hP 0 rfl rfl 6 (by decide) k_0 rfl rfl dX7_join_62 ?_
    refine lv_iload_n hx hb dX7_join_65 rfl (lv_at hl 3 rfl) ?_
    refine lv_dup2_11 hx hb dX7_join_66 rfl rfl ?_
    obtain ⟨v4905, ev4905, hn4906, h⟩ := ldx_s h
    refine ka_ild hx hb hK hP 1 0 ev4905 rfl rfl hn4906 dX7_join_67 ?_
    refine lv_iconst (v := 1) hx hb dX7_join_68 (by decide) ?_
    refine lv_iload_n hx hb dX7_join_69 rfl (lv_at hl 2 rfl) ?_
    refine lv_ishl hx hb dX7_join_70 ?_
    refine lv_ior hx hb dX7_join_71 ?_
    obtain ⟨g4907, eg4907, hn4908, h⟩ := sti_s h
    refine ka_ist (w1 := [(aM, .inr (7, [.int M_thrown, .int M_status, .ref aM_lane, .ref aM_many, .ref aM_item, .int M_posts, .ref aM_beside, .int M_rounds, .ref aM_round, .int M_read, .ref aM_reads, .ref aM_tape, .int M_taped, .int M_latest, .int M_length, .int M_at, .int M_sort, .int M_from, .int M_till, .int M_fault, .int M_faultAt, .ref aM_fewest, .ref aM_may, .ref aM_then, .ref aM_cases, .ref aM_next, .ref aM_trace, .int M_traced])), (aM_beside, .inl (cI, 8, .inl g4907))]) hx hb hK hP hD hS 1 0 eg4907 rfl rfl hn4908 dX7_join_72 rfl (fun H locs hP hD hS => ?_)
    refine lv_iload_n hx hb dX7_join_73 rfl (lv_at hl 0 rfl) ?_
    refine lv_if_eq (tgt := 81) hx hb dX7_join_74 (by decide) (fun c4909 => ?_) (fun c4909 => ?_)
    · have h := ift c4909 h
      refine lv_iconst (v := 1) hx hb dX7_join_81 (by decide) ?_
      obtain ⟨rfl, rfl, rfl⟩ := sj3 h
      exact hret _ _ _ _ _ rfl rfl hP hD hS dX7_join_82
    · have h := ifn c4909 h
      refine lv_iconst (v := 0) hx hb dX7_join_77 (by decide) ?_
      refine lv_goto (tgt := 82) hx hb dX7_join_78 (by decide) ?_
      obtain ⟨rfl, rfl, rfl⟩ := sj3 h
      exact hret _ _ _ _ _ rfl rfl hP hD hS dX7_join_82
  unfold fX7_join at h
  refine lv_aload_n hx hb dX7_join_0 rfl (lv_at hl 0 rfl) ?_
  refine lv_iconst (v := 0) hx hb dX7_join_1 (by decide) ?_
  refine ka_put (w1 := [(aM, .inr (7, [.int 0, .int M_status, .ref aM_lane, .ref aM_many, .ref aM_item, .int M_posts, .ref aM_beside, .int M_rounds, .ref aM_round, .int M_read, .ref aM_reads, .ref aM_tape, .int M_taped, .int M_latest, .int M_length, .int M_at, .int M_sort, .int M_from, .int M_till, .int M_fault, .int M_faultAt, .ref aM_fewest, .ref aM_may, .ref aM_then, .ref aM_cases, .ref aM_next, .ref aM_trace, .int M_traced])), (aM_beside, .inl (cI, 8, .inl M_beside))]) (C := RX7) (T := TX7) (Nf := 28) (ref := "BeepNetModel") hx hb hts hiX7 tyX7 tyX7_ok nmX7 hown hK hP hD hS 0 rfl rfl 0 (by decide) k_1 rfl rfl rfl (Nat.le_of_ble_eq_true rfl) dX7_join_2 rfl (fun H locs hP hD hS => ?_)
  refine lv_aload_n hx hb dX7_join_5 rfl (lv_at hl 0 rfl) ?_
  refine lv_iload_n hx hb dX7_join_6 rfl (lv_at hl 1 rfl) ?_
  obtain ⟨r1, e2, h⟩ := bd1_s h
  refine kc_vi (rest := []) (wr := [(aM_beside, .inl (cI, 8, .inl M_beside))]) (wF := [(aM, .inr (7, [.int 0, .int M_status, .ref aM_lane, .ref aM_many, .ref aM_item, .int M_posts, .ref aM_beside, .int M_rounds, .ref aM_round, .int M_read, .ref aM_reads, .ref aM_tape, .int M_taped, .int M_latest, .int M_length, .int M_at, .int M_sort, .int M_from, .int M_till, .int M_fault, .int M_faultAt, .ref aM_fewest, .ref aM_may, .ref aM_then, .ref aM_cases, .ref aM_next, .ref aM_trace, .int M_traced])), (aM_beside, .inl (cI, 8, .inl M_beside))]) ⟨hx, hb, hml, hown, hts⟩ (c_X7_isPost l dC dI cI cJ cZ cA aM aM_lane aM_many aM_item aM_beside aM_round aM_reads aM_tape aM_fewest aM_may aM_then aM_cases aM_next aM_trace 0 M_status M_posts M_rounds M_read M_taped M_latest M_length M_at M_sort M_from M_till M_fault M_faultAt M_traced p0 r1 e2) (cwV 1 hts gX7_join_X7_isPost rfl rfl rfl (by decide +kernel) ⟨Nat.le_of_ble_eq_true rfl, Nat.le_of_ble_eq_true rfl⟩) hK hP hD hS hA [0] [1] [1, 0] 0 rfl rfl rfl rfl (by decide) rfl rfl rfl rfl rfl rfl hl.1 rfl (Nat.le_of_ble_eq_true rfl) dX7_join_7 ⟨Nat.zero_le _, Nat.zero_le _⟩ (fun H locs hP hD hS => ?_)
  refine lv_if_eq (tgt := 26) hx hb dX7_join_10 (by decide) (fun c3 => ?_) (fun c3 => ?_)
  · have h := ift c3 h
    refine lv_ldc hx hb hown k_2 dX7_join_26 ?_
    obtain ⟨rfl, rfl, rfl⟩ := sj3 h
    exact hret _ _ _ _ _ rfl rfl hP hD hS dX7_join_28
  · have h := ifn c3 h
    refine lv_aload_n hx hb dX7_join_13 rfl (lv_at hl 0 rfl) ?_
    refine lv_iload_n hx hb dX7_join_14 rfl (lv_at hl 2 rfl) ?_
    obtain ⟨r4, e5, h⟩ := bd1_s h
    refine kc_vi (rest := []) (wr := [(aM_beside, .inl (cI, 8, .inl M_beside))]) (wF := [(aM, .inr (7, [.int 0, .int M_status, .ref aM_lane, .ref aM_many, .ref aM_item, .int M_posts, .ref aM_beside, .int M_rounds, .ref aM_round, .int M_read, .ref aM_reads, .ref aM_tape, .int M_taped, .int M_latest, .int M_length, .int M_at, .int M_sort, .int M_from, .int M_till, .int M_fault, .int M_faultAt, .ref aM_fewest, .ref aM_may, .ref aM_then, .ref aM_cases, .ref aM_next, .ref aM_trace, .int M_traced])), (aM_beside, .inl (cI, 8, .inl M_beside))]) ⟨hx, hb, hml, hown, hts⟩ (c_X7_isPost l dC dI cI cJ cZ cA aM aM_lane aM_many aM_item aM_beside aM_round aM_reads aM_tape aM_fewest aM_may aM_then aM_cases aM_next aM_trace 0 M_status M_posts M_rounds M_read M_taped M_latest M_length M_at M_sort M_from M_till M_fault M_faultAt M_traced p1 r4 e5) (cwV 1 hts gX7_join_X7_isPost rfl rfl rfl (by decide +kernel) ⟨Nat.le_of_ble_eq_true rfl, Nat.le_of_ble_eq_true rfl⟩) hK hP hD hS hA [0] [1] [1, 0] 0 rfl rfl rfl rfl (by decide) rfl rfl rfl rfl rfl rfl hl.1 rfl (Nat.le_of_ble_eq_true rfl) dX7_join_15 ⟨Nat.zero_le _, Nat.zero_le _⟩ (fun H locs hP hD hS => ?_)
    refine lv_if_eq (tgt := 26) hx hb dX7_join_18 (by decide) (fun c6 => ?_) (fun c6 => ?_)
    · have h := ift c6 h
      refine lv_ldc hx hb hown k_2 dX7_join_26 ?_
      obtain ⟨rfl, rfl, rfl⟩ := sj3 h
      exact hret _ _ _ _ _ rfl rfl hP hD hS dX7_join_28
    · have h := ifn c6 h
      refine lv_iload_n hx hb dX7_join_21 rfl (lv_at hl 1 rfl) ?_
      refine lv_iload_n hx hb dX7_join_22 rfl (lv_at hl 2 rfl) ?_
      refine lv_icmp_ne (tgt := 29) hx hb dX7_join_23 (by decide) (fun c7 => ?_) (fun c7 => ?_)
      · have h := ifn c7 h
        refine lv_aload_n hx hb dX7_join_29 rfl (lv_at hl 0 rfl) ?_
        refine ka_get (v := .ref aM_beside) (C := RX7) (T := TX7) (Nf := 28) (ref := "BeepNetModel") hx hb hts hiX7 hown hK hP 0 rfl rfl 6 (by decide) k_0 rfl rfl dX7_join_30 ?_
        refine lv_iload_n hx hb dX7_join_33 rfl (lv_at hl 1 rfl) ?_
        obtain ⟨v8, ev8, hn9, h⟩ := ldx_s h
        refine ka_ild hx hb hK hP 1 0 ev8 rfl rfl hn9 dX7_join_34 ?_
        refine lv_iload_n hx hb dX7_join_35 rfl (lv_at hl 2 rfl) ?_
        refine lv_ishr hx hb dX7_join_36 ?_
        refine lv_iconst (v := 1) hx hb dX7_join_37 (by decide) ?_
        refine lv_iand hx hb dX7_join_38 ?_
        refine lv_iconst (v := 1) hx hb dX7_join_39 (by decide) ?_
        refine lv_icmp_ne (tgt := 47) hx hb dX7_join_40 (by decide) (fun c10 => ?_) (fun c10 => ?_)
        · have h := ifn c10 h
          refine lv_iconst (v := 0) hx hb dX7_join_47 (by decide) ?_
          exact hC48 0 M_beside p0 p1 0 _ _ _ h hP hD hS (lv_sub hl [0, 1, 2] rfl)
        · have h := ift c10 h
          refine lv_iconst (v := 1) hx hb dX7_join_43 (by decide) ?_
          refine lv_goto (tgt := 48) hx hb dX7_join_44 (by decide) ?_
          exact hC48 0 M_beside p0 p1 1 _ _ _ h hP hD hS (lv_sub hl [0, 1, 2] rfl)
      · have h := ift c7 h
        refine lv_ldc hx hb hown k_2 dX7_join_26 ?_
        obtain ⟨rfl, rfl, rfl⟩ := sj3 h
        exact hret _ _ _ _ _ rfl rfl hP hD hS dX7_join_28
set_option maxHeartbeats 4000000 in
set_option maxRecDepth 100000 in
theorem c_X7_part (l : Launch) (dC : Nat → ClassId) (dI : Nat → Nat → Nat) (cI cJ cZ cA : ClassId) (aM aM_lane aM_many aM_item aM_beside aM_round aM_reads aM_tape aM_fewest aM_may aM_then aM_cases aM_next aM_trace : Nat) (M_thrown : Int32) (M_status : Int32) (M_posts : Int32) (M_rounds : Int32) (M_read : Int32) (M_taped : Int32) (M_latest : Int32) (M_length : Int32) (M_at : Int32) (M_sort : Int32) (M_from : Int32) (M_till : Int32) (M_fault : Int32) (M_faultAt : Int32) (M_traced : Int32) (M_beside : Nat → Int32) (p0 : Int32) (p1 : Int32) (rr : Int32) (M_thrown_z : Int32) (M_beside_z : Nat → Int32) (h : fX7_part M_thrown M_posts M_beside p0 p1 = some (rr, M_thrown_z, M_beside_z)) : Cti l yX7_part wsX7_part rmX7_part (dC, dI) (tyL cI cJ cZ cA) [(aM, .inr (7, [.int M_thrown, .int M_status, .ref aM_lane, .ref aM_many, .ref aM_item, .int M_posts, .ref aM_beside, .int M_rounds, .ref aM_round, .int M_read, .ref aM_reads, .ref aM_tape, .int M_taped, .int M_latest, .int M_length, .int M_at, .int M_sort, .int M_from, .int M_till, .int M_fault, .int M_faultAt, .ref aM_fewest, .ref aM_may, .ref aM_then, .ref aM_cases, .ref aM_next, .ref aM_trace, .int M_traced])), (aM_beside, .inl (cI, 8, .inl M_beside))] [(aM, .inr (7, [.int M_thrown_z, .int M_status, .ref aM_lane, .ref aM_many, .ref aM_item, .int M_posts, .ref aM_beside, .int M_rounds, .ref aM_round, .int M_read, .ref aM_reads, .ref aM_tape, .int M_taped, .int M_latest, .int M_length, .int M_at, .int M_sort, .int M_from, .int M_till, .int M_fault, .int M_faultAt, .ref aM_fewest, .ref aM_may, .ref aM_then, .ref aM_cases, .ref aM_next, .ref aM_trace, .int M_traced])), (aM_beside, .inl (cI, 8, .inl M_beside_z))] [.ref aM, .int p0, .int p1] rr := by
  refine ct_int (ty := .int) (cc := cX7_part) (maxL := 4) (by decide) rfl (Nat.le_of_ble_eq_true rfl) ?_
  intro p e s m args below meth c A Q ls hx hb hml hown hts hA hK hP hD hS hl hret
  have hl : lv_has ls 4 [(0, .ref aM), (1, .int p0), (2, .int p1)] := hl
  have k_0 := hts (.fieldLink RX7 19 "BeepNetModel" "beside" "[I") (by decide +kernel)
  have k_1 := hts (.fieldLink RX7 51 "BeepNetModel" "thrown" "I") (by decide +kernel)
  have k_2 := hts (.constant RX7 71 (-1000001)) (by decide +kernel)
  have hiX7 : ∀ w ∈ u_ws RX7 TX7 28, w ∈ wsX7_part := fun w hw => List.mem_cons_of_mem _ (List.mem_append_right _ hw)
  have hC48 : ∀ (M_thrown : Int32) (M_beside : Nat → Int32) (x1 : Int32) (x2 : Int32) (t0 : Int32) (H : Heap) (locs : List Loc) (ls : Array Slot), fX7_part_c48 M_posts M_thrown M_beside x1 x2 t0 = some (rr, M_thrown_z, M_beside_z) → va_P (dC, dI) vwCl [(aM, .inr (7, [.int M_thrown, .int M_status, .ref aM_lane, .ref aM_many, .ref aM_item, .int M_posts, .ref aM_beside, .int M_rounds, .ref aM_round, .int M_read, .ref aM_reads, .ref aM_tape, .int M_taped, .int M_latest, .int M_length, .int M_at, .int M_sort, .int M_from, .int M_till, .int M_fault, .int M_faultAt, .ref aM_fewest, .ref aM_may, .ref aM_then, .ref aM_cases, .ref aM_next, .ref aM_trace, .int M_traced])), (aM_beside, .inl (cI, 8, .inl M_beside))] H → va_D A [(aM, .inr (7, [.int M_thrown, .int M_status, .ref aM_lane, .ref aM_many, .ref aM_item, .int M_posts, .ref aM_beside, .int M_rounds, .ref aM_round, .int M_read, .ref aM_reads, .ref aM_tape, .int M_taped, .int M_latest, .int M_length, .int M_at, .int M_sort, .int M_from, .int M_till, .int M_fault, .int M_faultAt, .ref aM_fewest, .ref aM_may, .ref aM_then, .ref aM_cases, .ref aM_next, .ref aM_trace, .int M_traced])), (aM_beside, .inl (cI, 8, .inl M_beside))] → va_S A s.heap H locs → lv_has ls 4 [(0, .ref aM), (1, .int x1), (2, .int x2)] → W p l e rmX7_part s m args below meth c H locs 0 0 Q (F0 m 48 ls [.int t0]) := by
    intro M_thrown M_beside x1 x2 t0 H locs ls h hP hD hS hl
    unfold fX7_part_c48 at h
    refine lv_istore_n (lv' := [(3, .int t0), (0, .ref aM), (1, .int x1), (2, .int x2)]) hx hb dX7_part_48 rfl hl (by decide) rfl (fun ls hl => ?_)
    refine lv_aload_n hx hb dX7_part_49 rfl (lv_at hl 1 rfl) ?_
    refine ka_get (v := .ref aM_beside) (C := RX7) (T := TX7) (Nf := 28) (ref := "BeepNetModel") hx hb hts hiX7 hown hK hP 0 rfl rfl 6 (by decide) k_0 rfl rfl dX7_part_50 ?_
    refine lv_iload_n hx hb dX7_part_53 rfl (lv_at hl 2 rfl) ?_
    refine lv_dup2_11 hx hb dX7_part_54 rfl rfl ?_
    obtain ⟨v4901, ev4901, hn4902, h⟩ := ldx_s h
    refine ka_ild hx hb hK hP 1 0 ev4901 rfl rfl hn4902 dX7_part_55 ?_
    refine lv_iconst (v := 1) hx hb dX7_part_56 (by decide) ?_
    refine lv_iload_n hx hb dX7_part_57 rfl (lv_at hl 3 rfl) ?_
    refine lv_ishl hx hb dX7_part_58 ?_
    refine lv_iconst (v := -1) hx hb dX7_part_59 (by decide) ?_
    refine lv_ixor hx hb dX7_part_60 ?_
    refine lv_iand hx hb dX7_part_61 ?_
    obtain ⟨g4903, eg4903, hn4904, h⟩ := sti_s h
    refine ka_ist (w1 := [(aM, .inr (7, [.int M_thrown, .int M_status, .ref aM_lane, .ref aM_many, .ref aM_item, .int M_posts, .ref aM_beside, .int M_rounds, .ref aM_round, .int M_read, .ref aM_reads, .ref aM_tape, .int M_taped, .int M_latest, .int M_length, .int M_at, .int M_sort, .int M_from, .int M_till, .int M_fault, .int M_faultAt, .ref aM_fewest, .ref aM_may, .ref aM_then, .ref aM_cases, .ref aM_next, .ref aM_trace, .int M_traced])), (aM_beside, .inl (cI, 8, .inl g4903))]) hx hb hK hP hD hS 1 0 eg4903 rfl rfl hn4904 dX7_part_62 rfl (fun H locs hP hD hS => ?_)
    refine lv_aload_n hx hb dX7_part_63 rfl (lv_at hl 1 rfl) ?_
    refine ka_get (v := .ref aM_beside) (C := RX7) (T := TX7) (Nf := 28) (ref := "BeepNetModel") hx hb hts hiX7 hown hK hP 0 rfl rfl 6 (by decide) k_0 rfl rfl dX7_part_64 ?_
    refine lv_iload_n hx hb dX7_part_67 rfl (lv_at hl 3 rfl) ?_
    refine lv_dup2_11 hx hb dX7_part_68 rfl rfl ?_
    obtain ⟨v4905, ev4905, hn4906, h⟩ := ldx_s h
    refine ka_ild hx hb hK hP 1 0 ev4905 rfl rfl hn4906 dX7_part_69 ?_
    refine lv_iconst (v := 1) hx hb dX7_part_70 (by decide) ?_
    refine lv_iload_n hx hb dX7_part_71 rfl (lv_at hl 2 rfl) ?_
    refine lv_ishl hx hb dX7_part_72 ?_
    refine lv_iconst (v := -1) hx hb dX7_part_73 (by decide) ?_
    refine lv_ixor hx hb dX7_part_74 ?_
    refine lv_iand hx hb dX7_part_75 ?_
    obtain ⟨g4907, eg4907, hn4908, h⟩ := sti_s h
    refine ka_ist (w1 := [(aM, .inr (7, [.int M_thrown, .int M_status, .ref aM_lane, .ref aM_many, .ref aM_item, .int M_posts, .ref aM_beside, .int M_rounds, .ref aM_round, .int M_read, .ref aM_reads, .ref aM_tape, .int M_taped, .int M_latest, .int M_length, .int M_at, .int M_sort, .int M_from, .int M_till, .int M_fault, .int M_faultAt, .ref aM_fewest, .ref aM_may, .ref aM_then, .ref aM_cases, .ref aM_next, .ref aM_trace, .int M_traced])), (aM_beside, .inl (cI, 8, .inl g4907))]) hx hb hK hP hD hS 1 0 eg4907 rfl rfl hn4908 dX7_part_76 rfl (fun H locs hP hD hS => ?_)
    refine lv_iload_n hx hb dX7_part_77 rfl (lv_at hl 0 rfl) ?_
    refine lv_if_eq (tgt := 85) hx hb dX7_part_78 (by decide) (fun c4909 => ?_) (fun c4909 => ?_)
    · have h := ift c4909 h
      refine lv_iconst (v := 0) hx hb dX7_part_85 (by decide) ?_
      obtain ⟨rfl, rfl, rfl⟩ := sj3 h
      exact hret _ _ _ _ _ rfl rfl hP hD hS dX7_part_86
    · have h := ifn c4909 h
      refine lv_iconst (v := 1) hx hb dX7_part_81 (by decide) ?_
      refine lv_goto (tgt := 86) hx hb dX7_part_82 (by decide) ?_
      obtain ⟨rfl, rfl, rfl⟩ := sj3 h
      exact hret _ _ _ _ _ rfl rfl hP hD hS dX7_part_86
  unfold fX7_part at h
  refine lv_aload_n hx hb dX7_part_0 rfl (lv_at hl 0 rfl) ?_
  refine lv_iconst (v := 0) hx hb dX7_part_1 (by decide) ?_
  refine ka_put (w1 := [(aM, .inr (7, [.int 0, .int M_status, .ref aM_lane, .ref aM_many, .ref aM_item, .int M_posts, .ref aM_beside, .int M_rounds, .ref aM_round, .int M_read, .ref aM_reads, .ref aM_tape, .int M_taped, .int M_latest, .int M_length, .int M_at, .int M_sort, .int M_from, .int M_till, .int M_fault, .int M_faultAt, .ref aM_fewest, .ref aM_may, .ref aM_then, .ref aM_cases, .ref aM_next, .ref aM_trace, .int M_traced])), (aM_beside, .inl (cI, 8, .inl M_beside))]) (C := RX7) (T := TX7) (Nf := 28) (ref := "BeepNetModel") hx hb hts hiX7 tyX7 tyX7_ok nmX7 hown hK hP hD hS 0 rfl rfl 0 (by decide) k_1 rfl rfl rfl (Nat.le_of_ble_eq_true rfl) dX7_part_2 rfl (fun H locs hP hD hS => ?_)
  refine lv_aload_n hx hb dX7_part_5 rfl (lv_at hl 0 rfl) ?_
  refine lv_iload_n hx hb dX7_part_6 rfl (lv_at hl 1 rfl) ?_
  obtain ⟨r1, e2, h⟩ := bd1_s h
  refine kc_vi (rest := []) (wr := [(aM_beside, .inl (cI, 8, .inl M_beside))]) (wF := [(aM, .inr (7, [.int 0, .int M_status, .ref aM_lane, .ref aM_many, .ref aM_item, .int M_posts, .ref aM_beside, .int M_rounds, .ref aM_round, .int M_read, .ref aM_reads, .ref aM_tape, .int M_taped, .int M_latest, .int M_length, .int M_at, .int M_sort, .int M_from, .int M_till, .int M_fault, .int M_faultAt, .ref aM_fewest, .ref aM_may, .ref aM_then, .ref aM_cases, .ref aM_next, .ref aM_trace, .int M_traced])), (aM_beside, .inl (cI, 8, .inl M_beside))]) ⟨hx, hb, hml, hown, hts⟩ (c_X7_isPost l dC dI cI cJ cZ cA aM aM_lane aM_many aM_item aM_beside aM_round aM_reads aM_tape aM_fewest aM_may aM_then aM_cases aM_next aM_trace 0 M_status M_posts M_rounds M_read M_taped M_latest M_length M_at M_sort M_from M_till M_fault M_faultAt M_traced p0 r1 e2) (cwV 1 hts gX7_part_X7_isPost rfl rfl rfl (by decide +kernel) ⟨Nat.le_of_ble_eq_true rfl, Nat.le_of_ble_eq_true rfl⟩) hK hP hD hS hA [0] [1] [1, 0] 0 rfl rfl rfl rfl (by decide) rfl rfl rfl rfl rfl rfl hl.1 rfl (Nat.le_of_ble_eq_true rfl) dX7_part_7 ⟨Nat.zero_le _, Nat.zero_le _⟩ (fun H locs hP hD hS => ?_)
  refine lv_if_eq (tgt := 26) hx hb dX7_part_10 (by decide) (fun c3 => ?_) (fun c3 => ?_)
  · have h := ift c3 h
    refine lv_ldc hx hb hown k_2 dX7_part_26 ?_
    obtain ⟨rfl, rfl, rfl⟩ := sj3 h
    exact hret _ _ _ _ _ rfl rfl hP hD hS dX7_part_28
  · have h := ifn c3 h
    refine lv_aload_n hx hb dX7_part_13 rfl (lv_at hl 0 rfl) ?_
    refine lv_iload_n hx hb dX7_part_14 rfl (lv_at hl 2 rfl) ?_
    obtain ⟨r4, e5, h⟩ := bd1_s h
    refine kc_vi (rest := []) (wr := [(aM_beside, .inl (cI, 8, .inl M_beside))]) (wF := [(aM, .inr (7, [.int 0, .int M_status, .ref aM_lane, .ref aM_many, .ref aM_item, .int M_posts, .ref aM_beside, .int M_rounds, .ref aM_round, .int M_read, .ref aM_reads, .ref aM_tape, .int M_taped, .int M_latest, .int M_length, .int M_at, .int M_sort, .int M_from, .int M_till, .int M_fault, .int M_faultAt, .ref aM_fewest, .ref aM_may, .ref aM_then, .ref aM_cases, .ref aM_next, .ref aM_trace, .int M_traced])), (aM_beside, .inl (cI, 8, .inl M_beside))]) ⟨hx, hb, hml, hown, hts⟩ (c_X7_isPost l dC dI cI cJ cZ cA aM aM_lane aM_many aM_item aM_beside aM_round aM_reads aM_tape aM_fewest aM_may aM_then aM_cases aM_next aM_trace 0 M_status M_posts M_rounds M_read M_taped M_latest M_length M_at M_sort M_from M_till M_fault M_faultAt M_traced p1 r4 e5) (cwV 1 hts gX7_part_X7_isPost rfl rfl rfl (by decide +kernel) ⟨Nat.le_of_ble_eq_true rfl, Nat.le_of_ble_eq_true rfl⟩) hK hP hD hS hA [0] [1] [1, 0] 0 rfl rfl rfl rfl (by decide) rfl rfl rfl rfl rfl rfl hl.1 rfl (Nat.le_of_ble_eq_true rfl) dX7_part_15 ⟨Nat.zero_le _, Nat.zero_le _⟩ (fun H locs hP hD hS => ?_)
    refine lv_if_eq (tgt := 26) hx hb dX7_part_18 (by decide) (fun c6 => ?_) (fun c6 => ?_)
    · have h := ift c6 h
      refine lv_ldc hx hb hown k_2 dX7_part_26 ?_
      obtain ⟨rfl, rfl, rfl⟩ := sj3 h
      exact hret _ _ _ _ _ rfl rfl hP hD hS dX7_part_28
    · have h := ifn c6 h
      refine lv_iload_n hx hb dX7_part_21 rfl (lv_at hl 1 rfl) ?_
      refine lv_iload_n hx hb dX7_part_22 rfl (lv_at hl 2 rfl) ?_
      refine lv_icmp_ne (tgt := 29) hx hb dX7_part_23 (by decide) (fun c7 => ?_) (fun c7 => ?_)
      · have h := ifn c7 h
        refine lv_aload_n hx hb dX7_part_29 rfl (lv_at hl 0 rfl) ?_
        refine ka_get (v := .ref aM_beside) (C := RX7) (T := TX7) (Nf := 28) (ref := "BeepNetModel") hx hb hts hiX7 hown hK hP 0 rfl rfl 6 (by decide) k_0 rfl rfl dX7_part_30 ?_
        refine lv_iload_n hx hb dX7_part_33 rfl (lv_at hl 1 rfl) ?_
        obtain ⟨v8, ev8, hn9, h⟩ := ldx_s h
        refine ka_ild hx hb hK hP 1 0 ev8 rfl rfl hn9 dX7_part_34 ?_
        refine lv_iload_n hx hb dX7_part_35 rfl (lv_at hl 2 rfl) ?_
        refine lv_ishr hx hb dX7_part_36 ?_
        refine lv_iconst (v := 1) hx hb dX7_part_37 (by decide) ?_
        refine lv_iand hx hb dX7_part_38 ?_
        refine lv_iconst (v := 1) hx hb dX7_part_39 (by decide) ?_
        refine lv_icmp_ne (tgt := 47) hx hb dX7_part_40 (by decide) (fun c10 => ?_) (fun c10 => ?_)
        · have h := ifn c10 h
          refine lv_iconst (v := 0) hx hb dX7_part_47 (by decide) ?_
          exact hC48 0 M_beside p0 p1 0 _ _ _ h hP hD hS (lv_sub hl [0, 1, 2] rfl)
        · have h := ift c10 h
          refine lv_iconst (v := 1) hx hb dX7_part_43 (by decide) ?_
          refine lv_goto (tgt := 48) hx hb dX7_part_44 (by decide) ?_
          exact hC48 0 M_beside p0 p1 1 _ _ _ h hP hD hS (lv_sub hl [0, 1, 2] rfl)
      · have h := ift c7 h
        refine lv_ldc hx hb hown k_2 dX7_part_26 ?_
        obtain ⟨rfl, rfl, rfl⟩ := sj3 h
        exact hret _ _ _ _ _ rfl rfl hP hD hS dX7_part_28
set_option maxHeartbeats 4000000 in
set_option maxRecDepth 100000 in
theorem c_X7_around (l : Launch) (dC : Nat → ClassId) (dI : Nat → Nat → Nat) (cI cJ cZ cA : ClassId) (aM aM_lane aM_many aM_item aM_beside aM_round aM_reads aM_tape aM_fewest aM_may aM_then aM_cases aM_next aM_trace : Nat) (M_thrown : Int32) (M_status : Int32) (M_posts : Int32) (M_rounds : Int32) (M_read : Int32) (M_taped : Int32) (M_latest : Int32) (M_length : Int32) (M_at : Int32) (M_sort : Int32) (M_from : Int32) (M_till : Int32) (M_fault : Int32) (M_faultAt : Int32) (M_traced : Int32) (M_beside : Nat → Int32) (p0 : Int32) (rr : Int32) (h : fX7_around M_posts M_beside p0 = some rr) : Cti l yX7_around wsX7_around rmX7_around (dC, dI) (tyL cI cJ cZ cA) [(aM, .inr (7, [.int M_thrown, .int M_status, .ref aM_lane, .ref aM_many, .ref aM_item, .int M_posts, .ref aM_beside, .int M_rounds, .ref aM_round, .int M_read, .ref aM_reads, .ref aM_tape, .int M_taped, .int M_latest, .int M_length, .int M_at, .int M_sort, .int M_from, .int M_till, .int M_fault, .int M_faultAt, .ref aM_fewest, .ref aM_may, .ref aM_then, .ref aM_cases, .ref aM_next, .ref aM_trace, .int M_traced])), (aM_beside, .inl (cI, 8, .inl M_beside))] [(aM, .inr (7, [.int M_thrown, .int M_status, .ref aM_lane, .ref aM_many, .ref aM_item, .int M_posts, .ref aM_beside, .int M_rounds, .ref aM_round, .int M_read, .ref aM_reads, .ref aM_tape, .int M_taped, .int M_latest, .int M_length, .int M_at, .int M_sort, .int M_from, .int M_till, .int M_fault, .int M_faultAt, .ref aM_fewest, .ref aM_may, .ref aM_then, .ref aM_cases, .ref aM_next, .ref aM_trace, .int M_traced])), (aM_beside, .inl (cI, 8, .inl M_beside))] [.ref aM, .int p0] rr := by
  refine ct_int (ty := .int) (cc := cX7_around) (maxL := 4) (by decide) rfl (Nat.le_of_ble_eq_true rfl) ?_
  intro p e s m args below meth c A Q ls hx hb hml hown hts hA hK hP hD hS hl hret
  have hl : lv_has ls 4 [(0, .ref aM), (1, .int p0)] := hl
  have k_0 := hts (.fieldLink RX7 76 "BeepNetModel" "posts" "I") (by decide +kernel)
  have k_1 := hts (.fieldLink RX7 19 "BeepNetModel" "beside" "[I") (by decide +kernel)
  have hiX7 : ∀ w ∈ u_ws RX7 TX7 28, w ∈ wsX7_around := fun w hw => List.mem_cons_of_mem _ (List.mem_append_right _ hw)
  have hC4 : ∀ (n : Nat) (x1 : Int32) (x2 : Int32) (x3 : Int32) (H : Heap) (locs : List Loc) (ls : Array Slot), fX7_around_c4 M_posts M_beside n x1 x2 x3 = some rr → va_P (dC, dI) vwCl [(aM, .inr (7, [.int M_thrown, .int M_status, .ref aM_lane, .ref aM_many, .ref aM_item, .int M_posts, .ref aM_beside, .int M_rounds, .ref aM_round, .int M_read, .ref aM_reads, .ref aM_tape, .int M_taped, .int M_latest, .int M_length, .int M_at, .int M_sort, .int M_from, .int M_till, .int M_fault, .int M_faultAt, .ref aM_fewest, .ref aM_may, .ref aM_then, .ref aM_cases, .ref aM_next, .ref aM_trace, .int M_traced])), (aM_beside, .inl (cI, 8, .inl M_beside))] H → va_D A [(aM, .inr (7, [.int M_thrown, .int M_status, .ref aM_lane, .ref aM_many, .ref aM_item, .int M_posts, .ref aM_beside, .int M_rounds, .ref aM_round, .int M_read, .ref aM_reads, .ref aM_tape, .int M_taped, .int M_latest, .int M_length, .int M_at, .int M_sort, .int M_from, .int M_till, .int M_fault, .int M_faultAt, .ref aM_fewest, .ref aM_may, .ref aM_then, .ref aM_cases, .ref aM_next, .ref aM_trace, .int M_traced])), (aM_beside, .inl (cI, 8, .inl M_beside))] → va_S A s.heap H locs → lv_has ls 4 [(0, .ref aM), (1, .int x1), (2, .int x2), (3, .int x3)] → W p l e rmX7_around s m args below meth c H locs 0 0 Q (F0 m 4 ls []) := by
    intro n
    induction n with
    | zero => intro x1 x2 x3 H locs ls h; rw [fX7_around_c4] at h; cases h
    | succ n4 ih4 =>
      intro x1 x2 x3 H locs ls h hP hD hS hl
      rw [fX7_around_c4] at h
      refine lv_iload_n hx hb dX7_around_4 rfl (lv_at hl 3 rfl) ?_
      refine lv_aload_n hx hb dX7_around_5 rfl (lv_at hl 0 rfl) ?_
      refine ka_get (v := .int M_posts) (C := RX7) (T := TX7) (Nf := 28) (ref := "BeepNetModel") hx hb hts hiX7 hown hK hP 0 rfl rfl 5 (by decide) k_0 rfl rfl dX7_around_6 ?_
      refine lv_icmp_ge (tgt := 40) hx hb dX7_around_9 (by decide) (fun c501 => ?_) (fun c501 => ?_)
      · have h := ift c501 h
        refine lv_iload_n hx hb dX7_around_40 rfl (lv_at hl 2 rfl) ?_
        obtain rfl := sj1 h
        exact hret _ _ _ _ _ rfl rfl hP hD hS dX7_around_41
      · have h := ifn c501 h
        refine lv_iload_n hx hb dX7_around_12 rfl (lv_at hl 2 rfl) ?_
        refine lv_iload_n hx hb dX7_around_13 rfl (lv_at hl 1 rfl) ?_
        refine lv_iload_n hx hb dX7_around_14 rfl (lv_at hl 3 rfl) ?_
        refine lv_ishr hx hb dX7_around_15 ?_
        refine lv_iconst (v := 1) hx hb dX7_around_16 (by decide) ?_
        refine lv_iand hx hb dX7_around_17 ?_
        refine lv_iconst (v := 1) hx hb dX7_around_18 (by decide) ?_
        refine lv_icmp_ne (tgt := 31) hx hb dX7_around_19 (by decide) (fun c502 => ?_) (fun c502 => ?_)
        · have h := ifn c502 h
          refine lv_iconst (v := 0) hx hb dX7_around_31 (by decide) ?_
          refine lv_ior hx hb dX7_around_32 ?_
          refine lv_istore_n (lv' := [(2, .int (x2 ||| (0 : Int32))), (0, .ref aM), (1, .int x1), (3, .int x3)]) hx hb dX7_around_33 rfl hl (by decide) rfl (fun ls hl => ?_)
          refine lv_iinc (v := x3 + 1) (lv' := [(3, .int (x3 + 1)), (2, .int (x2 ||| (0 : Int32))), (0, .ref aM), (1, .int x1)]) hx hb dX7_around_34 hl (k := 3) rfl rfl (by decide) rfl (fun ls hl => ?_)
          refine lv_goto (tgt := 4) hx hb dX7_around_37 (by decide) ?_
          exact ih4 x1 (x2 ||| (0 : Int32)) (x3 + 1) _ _ _ h hP hD hS (lv_sub hl [2, 3, 1, 0] rfl)
        · have h := ift c502 h
          refine lv_aload_n hx hb dX7_around_22 rfl (lv_at hl 0 rfl) ?_
          refine ka_get (v := .ref aM_beside) (C := RX7) (T := TX7) (Nf := 28) (ref := "BeepNetModel") hx hb hts hiX7 hown hK hP 0 rfl rfl 6 (by decide) k_1 rfl rfl dX7_around_23 ?_
          refine lv_iload_n hx hb dX7_around_26 rfl (lv_at hl 3 rfl) ?_
          obtain ⟨v503, ev503, hn504, h⟩ := ldx_s h
          refine ka_ild hx hb hK hP 1 0 ev503 rfl rfl hn504 dX7_around_27 ?_
          refine lv_goto (tgt := 32) hx hb dX7_around_28 (by decide) ?_
          refine lv_ior hx hb dX7_around_32 ?_
          refine lv_istore_n (lv' := [(2, .int (x2 ||| v503)), (0, .ref aM), (1, .int x1), (3, .int x3)]) hx hb dX7_around_33 rfl hl (by decide) rfl (fun ls hl => ?_)
          refine lv_iinc (v := x3 + 1) (lv' := [(3, .int (x3 + 1)), (2, .int (x2 ||| v503)), (0, .ref aM), (1, .int x1)]) hx hb dX7_around_34 hl (k := 3) rfl rfl (by decide) rfl (fun ls hl => ?_)
          refine lv_goto (tgt := 4) hx hb dX7_around_37 (by decide) ?_
          exact ih4 x1 (x2 ||| v503) (x3 + 1) _ _ _ h hP hD hS (lv_sub hl [2, 3, 1, 0] rfl)
  unfold fX7_around at h
  refine lv_iconst (v := 0) hx hb dX7_around_0 (by decide) ?_
  refine lv_istore_n (lv' := [(2, .int 0), (0, .ref aM), (1, .int p0)]) hx hb dX7_around_1 rfl hl (by decide) rfl (fun ls hl => ?_)
  refine lv_iconst (v := 0) hx hb dX7_around_2 (by decide) ?_
  refine lv_istore_n (lv' := [(3, .int 0), (2, .int 0), (0, .ref aM), (1, .int p0)]) hx hb dX7_around_3 rfl hl (by decide) rfl (fun ls hl => ?_)
  exact hC4 FU p0 0 0 _ _ _ h hP hD hS (lv_sub hl [2, 3, 1, 0] rfl)
set_option maxHeartbeats 4000000 in
set_option maxRecDepth 100000 in
theorem c_X7_reach (l : Launch) (dC : Nat → ClassId) (dI : Nat → Nat → Nat) (cI cJ cZ cA : ClassId) (aM aM_lane aM_many aM_item aM_beside aM_round aM_reads aM_tape aM_fewest aM_may aM_then aM_cases aM_next aM_trace : Nat) (M_thrown : Int32) (M_status : Int32) (M_posts : Int32) (M_rounds : Int32) (M_read : Int32) (M_taped : Int32) (M_latest : Int32) (M_length : Int32) (M_at : Int32) (M_sort : Int32) (M_from : Int32) (M_till : Int32) (M_fault : Int32) (M_faultAt : Int32) (M_traced : Int32) (M_beside : Nat → Int32) (p0 : Int32) (rr : Int32) (h : fX7_reach M_posts M_beside p0 = some rr) : Cti l yX7_reach wsX7_reach rmX7_reach (dC, dI) (tyL cI cJ cZ cA) [(aM, .inr (7, [.int M_thrown, .int M_status, .ref aM_lane, .ref aM_many, .ref aM_item, .int M_posts, .ref aM_beside, .int M_rounds, .ref aM_round, .int M_read, .ref aM_reads, .ref aM_tape, .int M_taped, .int M_latest, .int M_length, .int M_at, .int M_sort, .int M_from, .int M_till, .int M_fault, .int M_faultAt, .ref aM_fewest, .ref aM_may, .ref aM_then, .ref aM_cases, .ref aM_next, .ref aM_trace, .int M_traced])), (aM_beside, .inl (cI, 8, .inl M_beside))] [(aM, .inr (7, [.int M_thrown, .int M_status, .ref aM_lane, .ref aM_many, .ref aM_item, .int M_posts, .ref aM_beside, .int M_rounds, .ref aM_round, .int M_read, .ref aM_reads, .ref aM_tape, .int M_taped, .int M_latest, .int M_length, .int M_at, .int M_sort, .int M_from, .int M_till, .int M_fault, .int M_faultAt, .ref aM_fewest, .ref aM_may, .ref aM_then, .ref aM_cases, .ref aM_next, .ref aM_trace, .int M_traced])), (aM_beside, .inl (cI, 8, .inl M_beside))] [.ref aM, .int p0] rr := by
  refine ct_int (ty := .int) (cc := cX7_reach) (maxL := 4) (by decide) rfl (Nat.le_of_ble_eq_true rfl) ?_
  intro p e s m args below meth c A Q ls hx hb hml hown hts hA hK hP hD hS hl hret
  have hl : lv_has ls 4 [(0, .ref aM), (1, .int p0)] := hl
  have hC4 : ∀ (n : Nat) (x2 : Int32) (x3 : Int32) (H : Heap) (locs : List Loc) (ls : Array Slot), fX7_reach_c4 M_posts M_beside n x2 x3 = some rr → va_P (dC, dI) vwCl [(aM, .inr (7, [.int M_thrown, .int M_status, .ref aM_lane, .ref aM_many, .ref aM_item, .int M_posts, .ref aM_beside, .int M_rounds, .ref aM_round, .int M_read, .ref aM_reads, .ref aM_tape, .int M_taped, .int M_latest, .int M_length, .int M_at, .int M_sort, .int M_from, .int M_till, .int M_fault, .int M_faultAt, .ref aM_fewest, .ref aM_may, .ref aM_then, .ref aM_cases, .ref aM_next, .ref aM_trace, .int M_traced])), (aM_beside, .inl (cI, 8, .inl M_beside))] H → va_D A [(aM, .inr (7, [.int M_thrown, .int M_status, .ref aM_lane, .ref aM_many, .ref aM_item, .int M_posts, .ref aM_beside, .int M_rounds, .ref aM_round, .int M_read, .ref aM_reads, .ref aM_tape, .int M_taped, .int M_latest, .int M_length, .int M_at, .int M_sort, .int M_from, .int M_till, .int M_fault, .int M_faultAt, .ref aM_fewest, .ref aM_may, .ref aM_then, .ref aM_cases, .ref aM_next, .ref aM_trace, .int M_traced])), (aM_beside, .inl (cI, 8, .inl M_beside))] → va_S A s.heap H locs → lv_has ls 4 [(0, .ref aM), (2, .int x2), (3, .int x3)] → W p l e rmX7_reach s m args below meth c H locs 0 0 Q (F0 m 4 ls []) := by
    intro n
    induction n with
    | zero => intro x2 x3 H locs ls h; rw [fX7_reach_c4] at h; cases h
    | succ n4 ih4 =>
      intro x2 x3 H locs ls h hP hD hS hl
      rw [fX7_reach_c4] at h
      refine lv_iload_n hx hb dX7_reach_4 rfl (lv_at hl 2 rfl) ?_
      refine lv_bipush (v := 8) hx hb dX7_reach_5 (by decide) ?_
      refine lv_icmp_ge (tgt := 24) hx hb dX7_reach_7 (by decide) (fun c501 => ?_) (fun c501 => ?_)
      · have h := ift c501 h
        refine lv_iload_n hx hb dX7_reach_24 rfl (lv_at hl 1 rfl) ?_
        obtain rfl := sj1 h
        exact hret _ _ _ _ _ rfl rfl hP hD hS dX7_reach_25
      · have h := ifn c501 h
        refine lv_iload_n hx hb dX7_reach_10 rfl (lv_at hl 1 rfl) ?_
        refine lv_aload_n hx hb dX7_reach_11 rfl (lv_at hl 0 rfl) ?_
        refine lv_iload_n hx hb dX7_reach_12 rfl (lv_at hl 1 rfl) ?_
        obtain ⟨r502, e503, h⟩ := bd1_s h
        refine kc_vi (rest := [.int x2]) (wr := []) (wF := [(aM, .inr (7, [.int M_thrown, .int M_status, .ref aM_lane, .ref aM_many, .ref aM_item, .int M_posts, .ref aM_beside, .int M_rounds, .ref aM_round, .int M_read, .ref aM_reads, .ref aM_tape, .int M_taped, .int M_latest, .int M_length, .int M_at, .int M_sort, .int M_from, .int M_till, .int M_fault, .int M_faultAt, .ref aM_fewest, .ref aM_may, .ref aM_then, .ref aM_cases, .ref aM_next, .ref aM_trace, .int M_traced])), (aM_beside, .inl (cI, 8, .inl M_beside))]) ⟨hx, hb, hml, hown, hts⟩ (c_X7_around l dC dI cI cJ cZ cA aM aM_lane aM_many aM_item aM_beside aM_round aM_reads aM_tape aM_fewest aM_may aM_then aM_cases aM_next aM_trace M_thrown M_status M_posts M_rounds M_read M_taped M_latest M_length M_at M_sort M_from M_till M_fault M_faultAt M_traced M_beside x2 r502 e503) (cwV 1 hts gX7_reach_X7_around rfl rfl rfl (by decide +kernel) ⟨Nat.le_of_ble_eq_true rfl, Nat.le_of_ble_eq_true rfl⟩) hK hP hD hS hA [0, 1] [] [0, 1] 0 rfl rfl rfl rfl (by decide) rfl rfl rfl rfl rfl rfl hl.1 rfl (Nat.le_of_ble_eq_true rfl) dX7_reach_13 ⟨Nat.zero_le _, Nat.zero_le _⟩ (fun H locs hP hD hS => ?_)
        refine lv_ior hx hb dX7_reach_16 ?_
        refine lv_istore_n (lv' := [(2, .int (x2 ||| r502)), (0, .ref aM), (3, .int x3)]) hx hb dX7_reach_17 rfl hl (by decide) rfl (fun ls hl => ?_)
        refine lv_iinc (v := x3 + 1) (lv' := [(3, .int (x3 + 1)), (2, .int (x2 ||| r502)), (0, .ref aM)]) hx hb dX7_reach_18 hl (k := 2) rfl rfl (by decide) rfl (fun ls hl => ?_)
        refine lv_goto (tgt := 4) hx hb dX7_reach_21 (by decide) ?_
        exact ih4 (x2 ||| r502) (x3 + 1) _ _ _ h hP hD hS (lv_sub hl [2, 1, 0] rfl)
  unfold fX7_reach at h
  refine lv_iload_n hx hb dX7_reach_0 rfl (lv_at hl 1 rfl) ?_
  refine lv_istore_n (lv' := [(2, .int p0), (0, .ref aM), (1, .int p0)]) hx hb dX7_reach_1 rfl hl (by decide) rfl (fun ls hl => ?_)
  refine lv_iconst (v := 0) hx hb dX7_reach_2 (by decide) ?_
  refine lv_istore_n (lv' := [(3, .int 0), (2, .int p0), (0, .ref aM), (1, .int p0)]) hx hb dX7_reach_3 rfl hl (by decide) rfl (fun ls hl => ?_)
  exact hC4 FU p0 0 _ _ _ h hP hD hS (lv_sub hl [2, 1, 0] rfl)
set_option maxHeartbeats 4000000 in
set_option maxRecDepth 100000 in
theorem c_X7_farOf (l : Launch) (dC : Nat → ClassId) (dI : Nat → Nat → Nat) (cI cJ cZ cA : ClassId) (aM aM_lane aM_many aM_item aM_beside aM_round aM_reads aM_tape aM_fewest aM_may aM_then aM_cases aM_next aM_trace : Nat) (M_thrown : Int32) (M_status : Int32) (M_posts : Int32) (M_rounds : Int32) (M_read : Int32) (M_taped : Int32) (M_latest : Int32) (M_length : Int32) (M_at : Int32) (M_sort : Int32) (M_from : Int32) (M_till : Int32) (M_fault : Int32) (M_faultAt : Int32) (M_traced : Int32) (M_beside : Nat → Int32) (p0 : Int32) (p1 : Int32) (rr : Int32) (h : fX7_farOf M_posts M_beside p0 p1 = some rr) : Cti l yX7_farOf wsX7_farOf rmX7_farOf (dC, dI) (tyL cI cJ cZ cA) [(aM, .inr (7, [.int M_thrown, .int M_status, .ref aM_lane, .ref aM_many, .ref aM_item, .int M_posts, .ref aM_beside, .int M_rounds, .ref aM_round, .int M_read, .ref aM_reads, .ref aM_tape, .int M_taped, .int M_latest, .int M_length, .int M_at, .int M_sort, .int M_from, .int M_till, .int M_fault, .int M_faultAt, .ref aM_fewest, .ref aM_may, .ref aM_then, .ref aM_cases, .ref aM_next, .ref aM_trace, .int M_traced])), (aM_beside, .inl (cI, 8, .inl M_beside))] [(aM, .inr (7, [.int M_thrown, .int M_status, .ref aM_lane, .ref aM_many, .ref aM_item, .int M_posts, .ref aM_beside, .int M_rounds, .ref aM_round, .int M_read, .ref aM_reads, .ref aM_tape, .int M_taped, .int M_latest, .int M_length, .int M_at, .int M_sort, .int M_from, .int M_till, .int M_fault, .int M_faultAt, .ref aM_fewest, .ref aM_may, .ref aM_then, .ref aM_cases, .ref aM_next, .ref aM_trace, .int M_traced])), (aM_beside, .inl (cI, 8, .inl M_beside))] [.ref aM, .int p0, .int p1] rr := by
  refine ct_int (ty := .int) (cc := cX7_farOf) (maxL := 5) (by decide) rfl (Nat.le_of_ble_eq_true rfl) ?_
  intro p e s m args below meth c A Q ls hx hb hml hown hts hA hK hP hD hS hl hret
  have hl : lv_has ls 5 [(0, .ref aM), (1, .int p0), (2, .int p1)] := hl
  have k_0 := hts (.constant RX7 86 (-1000000)) (by decide +kernel)
  have hC7 : ∀ (n : Nat) (x2 : Int32) (x3 : Int32) (x4 : Int32) (H : Heap) (locs : List Loc) (ls : Array Slot), fX7_farOf_c7 M_posts M_beside n x2 x3 x4 = some rr → va_P (dC, dI) vwCl [(aM, .inr (7, [.int M_thrown, .int M_status, .ref aM_lane, .ref aM_many, .ref aM_item, .int M_posts, .ref aM_beside, .int M_rounds, .ref aM_round, .int M_read, .ref aM_reads, .ref aM_tape, .int M_taped, .int M_latest, .int M_length, .int M_at, .int M_sort, .int M_from, .int M_till, .int M_fault, .int M_faultAt, .ref aM_fewest, .ref aM_may, .ref aM_then, .ref aM_cases, .ref aM_next, .ref aM_trace, .int M_traced])), (aM_beside, .inl (cI, 8, .inl M_beside))] H → va_D A [(aM, .inr (7, [.int M_thrown, .int M_status, .ref aM_lane, .ref aM_many, .ref aM_item, .int M_posts, .ref aM_beside, .int M_rounds, .ref aM_round, .int M_read, .ref aM_reads, .ref aM_tape, .int M_taped, .int M_latest, .int M_length, .int M_at, .int M_sort, .int M_from, .int M_till, .int M_fault, .int M_faultAt, .ref aM_fewest, .ref aM_may, .ref aM_then, .ref aM_cases, .ref aM_next, .ref aM_trace, .int M_traced])), (aM_beside, .inl (cI, 8, .inl M_beside))] → va_S A s.heap H locs → lv_has ls 5 [(0, .ref aM), (2, .int x2), (3, .int x3), (4, .int x4)] → W p l e rmX7_farOf s m args below meth c H locs 0 0 Q (F0 m 7 ls []) := by
    intro n
    induction n with
    | zero => intro x2 x3 x4 H locs ls h; rw [fX7_farOf_c7] at h; cases h
    | succ n7 ih7 =>
      intro x2 x3 x4 H locs ls h hP hD hS hl
      rw [fX7_farOf_c7] at h
      refine lv_iload hx hb dX7_farOf_7 (lv_at hl 3 rfl) ?_
      refine lv_bipush (v := 8) hx hb dX7_farOf_9 (by decide) ?_
      refine lv_icmp_ge (tgt := 40) hx hb dX7_farOf_11 (by decide) (fun c801 => ?_) (fun c801 => ?_)
      · have h := ift c801 h
        refine lv_ldc hx hb hown k_0 dX7_farOf_40 ?_
        obtain rfl := sj1 h
        exact hret _ _ _ _ _ rfl rfl hP hD hS dX7_farOf_42
      · have h := ifn c801 h
        refine lv_iload_n hx hb dX7_farOf_14 rfl (lv_at hl 2 rfl) ?_
        refine lv_iload_n hx hb dX7_farOf_15 rfl (lv_at hl 1 rfl) ?_
        refine lv_ishr hx hb dX7_farOf_16 ?_
        refine lv_iconst (v := 1) hx hb dX7_farOf_17 (by decide) ?_
        refine lv_iand hx hb dX7_farOf_18 ?_
        refine lv_iconst (v := 1) hx hb dX7_farOf_19 (by decide) ?_
        refine lv_icmp_ne (tgt := 26) hx hb dX7_farOf_20 (by decide) (fun c802 => ?_) (fun c802 => ?_)
        · have h := ifn c802 h
          refine lv_iload_n hx hb dX7_farOf_26 rfl (lv_at hl 2 rfl) ?_
          refine lv_aload_n hx hb dX7_farOf_27 rfl (lv_at hl 0 rfl) ?_
          refine lv_iload_n hx hb dX7_farOf_28 rfl (lv_at hl 2 rfl) ?_
          obtain ⟨r803, e804, h⟩ := bd1_s h
          refine kc_vi (rest := [.int x3]) (wr := []) (wF := [(aM, .inr (7, [.int M_thrown, .int M_status, .ref aM_lane, .ref aM_many, .ref aM_item, .int M_posts, .ref aM_beside, .int M_rounds, .ref aM_round, .int M_read, .ref aM_reads, .ref aM_tape, .int M_taped, .int M_latest, .int M_length, .int M_at, .int M_sort, .int M_from, .int M_till, .int M_fault, .int M_faultAt, .ref aM_fewest, .ref aM_may, .ref aM_then, .ref aM_cases, .ref aM_next, .ref aM_trace, .int M_traced])), (aM_beside, .inl (cI, 8, .inl M_beside))]) ⟨hx, hb, hml, hown, hts⟩ (c_X7_around l dC dI cI cJ cZ cA aM aM_lane aM_many aM_item aM_beside aM_round aM_reads aM_tape aM_fewest aM_may aM_then aM_cases aM_next aM_trace M_thrown M_status M_posts M_rounds M_read M_taped M_latest M_length M_at M_sort M_from M_till M_fault M_faultAt M_traced M_beside x3 r803 e804) (cwV 1 hts gX7_farOf_X7_around rfl rfl rfl (by decide +kernel) ⟨Nat.le_of_ble_eq_true rfl, Nat.le_of_ble_eq_true rfl⟩) hK hP hD hS hA [0, 1] [] [0, 1] 0 rfl rfl rfl rfl (by decide) rfl rfl rfl rfl rfl rfl hl.1 rfl (Nat.le_of_ble_eq_true rfl) dX7_farOf_29 ⟨Nat.zero_le _, Nat.zero_le _⟩ (fun H locs hP hD hS => ?_)
          refine lv_ior hx hb dX7_farOf_32 ?_
          refine lv_istore_n (lv' := [(3, .int (x3 ||| r803)), (0, .ref aM), (2, .int x2), (4, .int x4)]) hx hb dX7_farOf_33 rfl hl (by decide) rfl (fun ls hl => ?_)
          refine lv_iinc (v := x4 + 1) (lv' := [(4, .int (x4 + 1)), (3, .int (x3 ||| r803)), (0, .ref aM), (2, .int x2)]) hx hb dX7_farOf_34 hl (k := 3) rfl rfl (by decide) rfl (fun ls hl => ?_)
          refine lv_goto (tgt := 7) hx hb dX7_farOf_37 (by decide) ?_
          exact ih7 x2 (x3 ||| r803) (x4 + 1) _ _ _ h hP hD hS (lv_sub hl [2, 3, 1, 0] rfl)
        · have h := ift c802 h
          refine lv_iload hx hb dX7_farOf_23 (lv_at hl 3 rfl) ?_
          obtain rfl := sj1 h
          exact hret _ _ _ _ _ rfl rfl hP hD hS dX7_farOf_25
  unfold fX7_farOf at h
  refine lv_iconst (v := 1) hx hb dX7_farOf_0 (by decide) ?_
  refine lv_iload_n hx hb dX7_farOf_1 rfl (lv_at hl 1 rfl) ?_
  refine lv_ishl hx hb dX7_farOf_2 ?_
  obtain ⟨v1, ev1, h⟩ := bnd_s h
  refine kn_i ev1 ?_
  refine lv_istore_n (lv' := [(3, .int v1), (0, .ref aM), (1, .int p0), (2, .int p1)]) hx hb dX7_farOf_3 rfl hl (by decide) rfl (fun ls hl => ?_)
  refine lv_iconst (v := 0) hx hb dX7_farOf_4 (by decide) ?_
  refine lv_istore (lv' := [(4, .int 0), (3, .int v1), (0, .ref aM), (1, .int p0), (2, .int p1)]) hx hb dX7_farOf_5 hl (by decide) rfl (fun ls hl => ?_)
  exact hC7 FU p1 v1 0 _ _ _ h hP hD hS (lv_sub hl [2, 4, 1, 0] rfl)
