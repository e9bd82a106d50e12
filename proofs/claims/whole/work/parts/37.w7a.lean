set_option maxHeartbeats 4000000 in
set_option maxRecDepth 100000 in
theorem c_X7_in (l : Launch) (dC : Nat → ClassId) (dI : Nat → Nat → Nat) (cI cJ cZ cA : ClassId) (p0 : Int64) (p1 : Int64) (p2 : Int64) (rr : Int32) (h : fX7_in p0 p1 p2 = some rr) : Cti l yX7_in wsX7_in rmX7_in (dC, dI) (tyL cI cJ cZ cA) [] [] [.long p0, .long p1, .long p2] rr := by
  refine ct_int (ty := .boolean) (cc := cX7_in) (maxL := 6) (by decide) rfl (Nat.le_of_ble_eq_true rfl) ?_
  intro p e s m args below meth c A Q ls hx hb hml hown hts hA hK hP hD hS hl hret
  have hl : lv_has ls 6 [(0, .long p0), (2, .long p1), (4, .long p2)] := hl
  unfold fX7_in at h
  refine lv_lload_n hx hb dX7_in_0 rfl (lv_at hl 0 rfl) ?_
  refine lv_lload_n hx hb dX7_in_1 rfl (lv_at hl 1 rfl) ?_
  refine W.lcmp hx hb dX7_in_2 ?_
  refine lv_if_lt (tgt := 17) hx hb dX7_in_3 (by decide) (fun c1 => ?_) (fun c1 => ?_)
  · have h := ift c1 h
    refine lv_iconst (v := 0) hx hb dX7_in_17 (by decide) ?_
    obtain rfl := sj1 h
    exact hret _ _ _ _ _ rfl rfl hP hD hS dX7_in_18
  · have h := ifn c1 h
    refine lv_lload_n hx hb dX7_in_6 rfl (lv_at hl 0 rfl) ?_
    refine lv_lload hx hb dX7_in_7 (lv_at hl 2 rfl) ?_
    refine W.lcmp hx hb dX7_in_9 ?_
    refine lv_if_gt (tgt := 17) hx hb dX7_in_10 (by decide) (fun c2 => ?_) (fun c2 => ?_)
    · have h := ift c2 h
      refine lv_iconst (v := 0) hx hb dX7_in_17 (by decide) ?_
      obtain rfl := sj1 h
      exact hret _ _ _ _ _ rfl rfl hP hD hS dX7_in_18
    · have h := ifn c2 h
      refine lv_iconst (v := 1) hx hb dX7_in_13 (by decide) ?_
      refine lv_goto (tgt := 18) hx hb dX7_in_14 (by decide) ?_
      obtain rfl := sj1 h
      exact hret _ _ _ _ _ rfl rfl hP hD hS dX7_in_18
set_option maxHeartbeats 4000000 in
set_option maxRecDepth 100000 in
theorem c_X7_found (l : Launch) (dC : Nat → ClassId) (dI : Nat → Nat → Nat) (cI cJ cZ cA : ClassId) (aM aM_lane aM_many aM_item aM_beside aM_round aM_reads aM_tape aM_fewest aM_may aM_then aM_cases aM_next aM_trace : Nat) (M_thrown : Int32) (M_status : Int32) (M_posts : Int32) (M_rounds : Int32) (M_read : Int32) (M_taped : Int32) (M_latest : Int32) (M_length : Int32) (M_at : Int32) (M_sort : Int32) (M_from : Int32) (M_till : Int32) (M_fault : Int32) (M_faultAt : Int32) (M_traced : Int32) (p0 : Int32) (rr : Int32) (M_status_z : Int32) (h : fX7_found M_status p0 = some (rr, M_status_z)) : Cti l yX7_found wsX7_found rmX7_found (dC, dI) (tyL cI cJ cZ cA) [(aM, .inr (7, [.int M_thrown, .int M_status, .ref aM_lane, .ref aM_many, .ref aM_item, .int M_posts, .ref aM_beside, .int M_rounds, .ref aM_round, .int M_read, .ref aM_reads, .ref aM_tape, .int M_taped, .int M_latest, .int M_length, .int M_at, .int M_sort, .int M_from, .int M_till, .int M_fault, .int M_faultAt, .ref aM_fewest, .ref aM_may, .ref aM_then, .ref aM_cases, .ref aM_next, .ref aM_trace, .int M_traced]))] [(aM, .inr (7, [.int M_thrown, .int M_status_z, .ref aM_lane, .ref aM_many, .ref aM_item, .int M_posts, .ref aM_beside, .int M_rounds, .ref aM_round, .int M_read, .ref aM_reads, .ref aM_tape, .int M_taped, .int M_latest, .int M_length, .int M_at, .int M_sort, .int M_from, .int M_till, .int M_fault, .int M_faultAt, .ref aM_fewest, .ref aM_may, .ref aM_then, .ref aM_cases, .ref aM_next, .ref aM_trace, .int M_traced]))] [.ref aM, .int p0] rr := by
  refine ct_int (ty := .int) (cc := cX7_found) (maxL := 2) (by decide) rfl (Nat.le_of_ble_eq_true rfl) ?_
  intro p e s m args below meth c A Q ls hx hb hml hown hts hA hK hP hD hS hl hret
  have hl : lv_has ls 2 [(0, .ref aM), (1, .int p0)] := hl
  have k_0 := hts (.fieldLink RX7 55 "BeepNetModel" "status" "I") (by decide +kernel)
  have k_1 := hts (.constant RX7 58 (-1000010)) (by decide +kernel)
  have hiX7 : ∀ w ∈ u_ws RX7 TX7 28, w ∈ wsX7_found := fun w hw => List.mem_cons_of_mem _ (List.mem_append_right _ hw)
  unfold fX7_found at h
  refine lv_aload_n hx hb dX7_found_0 rfl (lv_at hl 0 rfl) ?_
  refine lv_iload_n hx hb dX7_found_1 rfl (lv_at hl 1 rfl) ?_
  refine ka_put (w1 := [(aM, .inr (7, [.int M_thrown, .int p0, .ref aM_lane, .ref aM_many, .ref aM_item, .int M_posts, .ref aM_beside, .int M_rounds, .ref aM_round, .int M_read, .ref aM_reads, .ref aM_tape, .int M_taped, .int M_latest, .int M_length, .int M_at, .int M_sort, .int M_from, .int M_till, .int M_fault, .int M_faultAt, .ref aM_fewest, .ref aM_may, .ref aM_then, .ref aM_cases, .ref aM_next, .ref aM_trace, .int M_traced]))]) (C := RX7) (T := TX7) (Nf := 28) (ref := "BeepNetModel") hx hb hts hiX7 tyX7 tyX7_ok nmX7 hown hK hP hD hS 0 rfl rfl 1 (by decide) k_0 rfl rfl rfl (Nat.le_of_ble_eq_true rfl) dX7_found_2 rfl (fun H locs hP hD hS => ?_)
  refine lv_ldc hx hb hown k_1 dX7_found_5 ?_
  refine lv_iload_n hx hb dX7_found_7 rfl (lv_at hl 1 rfl) ?_
  refine lv_isub hx hb dX7_found_8 ?_
  obtain ⟨rfl, rfl⟩ := sj2 h
  exact hret _ _ _ _ _ rfl rfl hP hD hS dX7_found_9
set_option maxHeartbeats 4000000 in
set_option maxRecDepth 100000 in
theorem c_X7_isSheet (l : Launch) (dC : Nat → ClassId) (dI : Nat → Nat → Nat) (cI cJ cZ cA : ClassId) (p0 : Int32) (rr : Int32) (h : fX7_isSheet p0 = some rr) : Cti l yX7_isSheet wsX7_isSheet rmX7_isSheet (dC, dI) (tyL cI cJ cZ cA) [] [] [.int p0] rr := by
  refine ct_int (ty := .boolean) (cc := cX7_isSheet) (maxL := 1) (by decide) rfl (Nat.le_of_ble_eq_true rfl) ?_
  intro p e s m args below meth c A Q ls hx hb hml hown hts hA hK hP hD hS hl hret
  have hl : lv_has ls 1 [(0, .int p0)] := hl
  have k_0 := hts (.constantLong RX7 59 (7)) (by decide +kernel)
  unfold fX7_isSheet at h
  refine lv_iload_n hx hb dX7_isSheet_0 rfl (lv_at hl 0 rfl) ?_
  refine lv_i2l hx hb dX7_isSheet_1 rfl ?_
  refine lv_lconst (v := 0) hx hb dX7_isSheet_2 (by decide) ?_
  refine lv_ldc2 hx hb hown k_0 dX7_isSheet_3 ?_
  obtain ⟨r1, e2, h⟩ := bd1_s h
  refine kc_si (rest := []) (wr := []) (wF := []) ⟨hx, hb, hml, hown, hts⟩ (c_X7_in l dC dI cI cJ cZ cA p0.toInt64 0 7 r1 e2) (va_cwS 3 hts gX7_isSheet_X7_in rfl rfl rfl (by decide +kernel) ⟨Nat.le_of_ble_eq_true rfl, Nat.le_of_ble_eq_true rfl⟩) hK hP hD hS hA [] [] [] rfl rfl rfl rfl (by decide) rfl rfl rfl hl.1 rfl (Nat.le_of_ble_eq_true rfl) dX7_isSheet_6 ⟨Nat.zero_le _, Nat.zero_le _⟩ (fun H locs hP hD hS => ?_)
  obtain ⟨hz3, h⟩ := zrx_s h
  obtain rfl := sj1 h
  exact hret _ _ _ _ _ rfl hz3 hP hD hS dX7_isSheet_9
set_option maxHeartbeats 4000000 in
set_option maxRecDepth 100000 in
theorem c_X7_sheet (l : Launch) (dC : Nat → ClassId) (dI : Nat → Nat → Nat) (cI cJ cZ cA : ClassId) (aM aM_lane aM_many aM_item aM_beside aM_round aM_reads aM_tape aM_fewest aM_may aM_then aM_cases aM_next aM_trace : Nat) (M_thrown : Int32) (M_status : Int32) (M_posts : Int32) (M_rounds : Int32) (M_read : Int32) (M_taped : Int32) (M_latest : Int32) (M_length : Int32) (M_at : Int32) (M_sort : Int32) (M_from : Int32) (M_till : Int32) (M_fault : Int32) (M_faultAt : Int32) (M_traced : Int32) (M_lane : Nat → Int32) (M_many : Nat → Int32) (M_item : Nat → Int32) (p0 : Int32) (p1 : Int32) (p2 : Int32) (rr : Int32) (M_thrown_z : Int32) (M_status_z : Int32) (M_lane_z : Nat → Int32) (M_many_z : Nat → Int32) (M_item_z : Nat → Int32) (h : fX7_sheet M_thrown M_status M_lane M_many M_item p0 p1 p2 = some (rr, M_thrown_z, M_status_z, M_lane_z, M_many_z, M_item_z)) : Cti l yX7_sheet wsX7_sheet rmX7_sheet (dC, dI) (tyL cI cJ cZ cA) [(aM, .inr (7, [.int M_thrown, .int M_status, .ref aM_lane, .ref aM_many, .ref aM_item, .int M_posts, .ref aM_beside, .int M_rounds, .ref aM_round, .int M_read, .ref aM_reads, .ref aM_tape, .int M_taped, .int M_latest, .int M_length, .int M_at, .int M_sort, .int M_from, .int M_till, .int M_fault, .int M_faultAt, .ref aM_fewest, .ref aM_may, .ref aM_then, .ref aM_cases, .ref aM_next, .ref aM_trace, .int M_traced])), (aM_lane, .inl (cI, 8, .inl M_lane)), (aM_many, .inl (cI, 8, .inl M_many)), (aM_item, .inl (cI, 320, .inl M_item))] [(aM, .inr (7, [.int M_thrown_z, .int M_status_z, .ref aM_lane, .ref aM_many, .ref aM_item, .int M_posts, .ref aM_beside, .int M_rounds, .ref aM_round, .int M_read, .ref aM_reads, .ref aM_tape, .int M_taped, .int M_latest, .int M_length, .int M_at, .int M_sort, .int M_from, .int M_till, .int M_fault, .int M_faultAt, .ref aM_fewest, .ref aM_may, .ref aM_then, .ref aM_cases, .ref aM_next, .ref aM_trace, .int M_traced])), (aM_lane, .inl (cI, 8, .inl M_lane_z)), (aM_many, .inl (cI, 8, .inl M_many_z)), (aM_item, .inl (cI, 320, .inl M_item_z))] [.ref aM, .int p0, .int p1, .int p2] rr := by
  refine ct_int (ty := .int) (cc := cX7_sheet) (maxL := 5) (by decide) rfl (Nat.le_of_ble_eq_true rfl) ?_
  intro p e s m args below meth c A Q ls hx hb hml hown hts hA hK hP hD hS hl hret
  have hl : lv_has ls 5 [(0, .ref aM), (1, .int p0), (2, .int p1), (3, .int p2)] := hl
  have k_0 := hts (.fieldLink RX7 16 "BeepNetModel" "item" "[I") (by decide +kernel)
  have k_1 := hts (.fieldLink RX7 51 "BeepNetModel" "thrown" "I") (by decide +kernel)
  have k_2 := hts (.constant RX7 71 (-1000001)) (by decide +kernel)
  have k_3 := hts (.constantLong RX7 69 (2)) (by decide +kernel)
  have k_4 := hts (.fieldLink RX7 55 "BeepNetModel" "status" "I") (by decide +kernel)
  have k_5 := hts (.fieldLink RX7 7 "BeepNetModel" "lane" "[I") (by decide +kernel)
  have k_6 := hts (.fieldLink RX7 13 "BeepNetModel" "many" "[I") (by decide +kernel)
  have hiX7 : ∀ w ∈ u_ws RX7 TX7 28, w ∈ wsX7_sheet := fun w hw => List.mem_cons_of_mem _ (List.mem_append_right _ hw)
  have hC65 : ∀ (n : Nat) (M_thrown : Int32) (M_status : Int32) (M_lane : Nat → Int32) (M_many : Nat → Int32) (M_item : Nat → Int32) (x1 : Int32) (x3 : Int32) (x4 : Int32) (H : Heap) (locs : List Loc) (ls : Array Slot), fX7_sheet_c65 n M_thrown M_status M_lane M_many M_item x1 x3 x4 = some (rr, M_thrown_z, M_status_z, M_lane_z, M_many_z, M_item_z) → va_P (dC, dI) vwCl [(aM, .inr (7, [.int M_thrown, .int M_status, .ref aM_lane, .ref aM_many, .ref aM_item, .int M_posts, .ref aM_beside, .int M_rounds, .ref aM_round, .int M_read, .ref aM_reads, .ref aM_tape, .int M_taped, .int M_latest, .int M_length, .int M_at, .int M_sort, .int M_from, .int M_till, .int M_fault, .int M_faultAt, .ref aM_fewest, .ref aM_may, .ref aM_then, .ref aM_cases, .ref aM_next, .ref aM_trace, .int M_traced])), (aM_lane, .inl (cI, 8, .inl M_lane)), (aM_many, .inl (cI, 8, .inl M_many)), (aM_item, .inl (cI, 320, .inl M_item))] H → va_D A [(aM, .inr (7, [.int M_thrown, .int M_status, .ref aM_lane, .ref aM_many, .ref aM_item, .int M_posts, .ref aM_beside, .int M_rounds, .ref aM_round, .int M_read, .ref aM_reads, .ref aM_tape, .int M_taped, .int M_latest, .int M_length, .int M_at, .int M_sort, .int M_from, .int M_till, .int M_fault, .int M_faultAt, .ref aM_fewest, .ref aM_may, .ref aM_then, .ref aM_cases, .ref aM_next, .ref aM_trace, .int M_traced])), (aM_lane, .inl (cI, 8, .inl M_lane)), (aM_many, .inl (cI, 8, .inl M_many)), (aM_item, .inl (cI, 320, .inl M_item))] → va_S A s.heap H locs → lv_has ls 5 [(0, .ref aM), (1, .int x1), (3, .int x3), (4, .int x4)] → W p l e rmX7_sheet s m args below meth c H locs 0 0 Q (F0 m 65 ls []) := by
    intro n
    induction n with
    | zero => intro M_thrown M_status M_lane M_many M_item x1 x3 x4 H locs ls h; rw [fX7_sheet_c65] at h; cases h
    | succ n65 ih65 =>
      intro M_thrown M_status M_lane M_many M_item x1 x3 x4 H locs ls h hP hD hS hl
      rw [fX7_sheet_c65] at h
      refine lv_iload hx hb dX7_sheet_65 (lv_at hl 3 rfl) ?_
      refine lv_bipush (v := 40) hx hb dX7_sheet_67 (by decide) ?_
      refine lv_icmp_ge (tgt := 91) hx hb dX7_sheet_69 (by decide) (fun c6601 => ?_) (fun c6601 => ?_)
      · have h := ift c6601 h
        refine lv_iload_n hx hb dX7_sheet_91 rfl (lv_at hl 2 rfl) ?_
        obtain ⟨rfl, rfl, rfl, rfl, rfl, rfl⟩ := sj6 h
        exact hret _ _ _ _ _ rfl rfl hP hD hS dX7_sheet_92
      · have h := ifn c6601 h
        refine lv_aload_n hx hb dX7_sheet_72 rfl (lv_at hl 0 rfl) ?_
        refine ka_get (v := .ref aM_item) (C := RX7) (T := TX7) (Nf := 28) (ref := "BeepNetModel") hx hb hts hiX7 hown hK hP 0 rfl rfl 4 (by decide) k_0 rfl rfl dX7_sheet_73 ?_
        refine lv_bipush (v := 40) hx hb dX7_sheet_76 (by decide) ?_
        refine lv_iload_n hx hb dX7_sheet_78 rfl (lv_at hl 1 rfl) ?_
        refine lv_imul hx hb dX7_sheet_79 ?_
        refine lv_iload hx hb dX7_sheet_80 (lv_at hl 3 rfl) ?_
        refine lv_iadd hx hb dX7_sheet_82 ?_
        refine lv_iconst (v := 0) hx hb dX7_sheet_83 (by decide) ?_
        obtain ⟨g6602, eg6602, hn6603, h⟩ := sti_s h
        refine ka_ist (w1 := [(aM, .inr (7, [.int M_thrown, .int M_status, .ref aM_lane, .ref aM_many, .ref aM_item, .int M_posts, .ref aM_beside, .int M_rounds, .ref aM_round, .int M_read, .ref aM_reads, .ref aM_tape, .int M_taped, .int M_latest, .int M_length, .int M_at, .int M_sort, .int M_from, .int M_till, .int M_fault, .int M_faultAt, .ref aM_fewest, .ref aM_may, .ref aM_then, .ref aM_cases, .ref aM_next, .ref aM_trace, .int M_traced])), (aM_lane, .inl (cI, 8, .inl M_lane)), (aM_many, .inl (cI, 8, .inl M_many)), (aM_item, .inl (cI, 320, .inl g6602))]) hx hb hK hP hD hS 3 0 eg6602 rfl rfl hn6603 dX7_sheet_84 rfl (fun H locs hP hD hS => ?_)
        refine lv_iinc (v := x4 + 1) (lv' := [(4, .int (x4 + 1)), (0, .ref aM), (1, .int x1), (3, .int x3)]) hx hb dX7_sheet_85 hl (k := 3) rfl rfl (by decide) rfl (fun ls hl => ?_)
        refine lv_goto (tgt := 65) hx hb dX7_sheet_88 (by decide) ?_
        exact ih65 M_thrown M_status M_lane M_many g6602 x1 x3 (x4 + 1) _ _ _ h hP hD hS (lv_sub hl [1, 2, 3, 0] rfl)
  unfold fX7_sheet at h
  refine lv_aload_n hx hb dX7_sheet_0 rfl (lv_at hl 0 rfl) ?_
  refine lv_iconst (v := 0) hx hb dX7_sheet_1 (by decide) ?_
  refine ka_put (w1 := [(aM, .inr (7, [.int 0, .int M_status, .ref aM_lane, .ref aM_many, .ref aM_item, .int M_posts, .ref aM_beside, .int M_rounds, .ref aM_round, .int M_read, .ref aM_reads, .ref aM_tape, .int M_taped, .int M_latest, .int M_length, .int M_at, .int M_sort, .int M_from, .int M_till, .int M_fault, .int M_faultAt, .ref aM_fewest, .ref aM_may, .ref aM_then, .ref aM_cases, .ref aM_next, .ref aM_trace, .int M_traced])), (aM_lane, .inl (cI, 8, .inl M_lane)), (aM_many, .inl (cI, 8, .inl M_many)), (aM_item, .inl (cI, 320, .inl M_item))]) (C := RX7) (T := TX7) (Nf := 28) (ref := "BeepNetModel") hx hb hts hiX7 tyX7 tyX7_ok nmX7 hown hK hP hD hS 0 rfl rfl 0 (by decide) k_1 rfl rfl rfl (Nat.le_of_ble_eq_true rfl) dX7_sheet_2 rfl (fun H locs hP hD hS => ?_)
  refine lv_iload_n hx hb dX7_sheet_5 rfl (lv_at hl 1 rfl) ?_
  obtain ⟨r1, e2, h⟩ := bd1_s h
  refine kc_si (rest := []) (wr := [(aM, .inr (7, [.int 0, .int M_status, .ref aM_lane, .ref aM_many, .ref aM_item, .int M_posts, .ref aM_beside, .int M_rounds, .ref aM_round, .int M_read, .ref aM_reads, .ref aM_tape, .int M_taped, .int M_latest, .int M_length, .int M_at, .int M_sort, .int M_from, .int M_till, .int M_fault, .int M_faultAt, .ref aM_fewest, .ref aM_may, .ref aM_then, .ref aM_cases, .ref aM_next, .ref aM_trace, .int M_traced])), (aM_lane, .inl (cI, 8, .inl M_lane)), (aM_many, .inl (cI, 8, .inl M_many)), (aM_item, .inl (cI, 320, .inl M_item))]) (wF := [(aM, .inr (7, [.int 0, .int M_status, .ref aM_lane, .ref aM_many, .ref aM_item, .int M_posts, .ref aM_beside, .int M_rounds, .ref aM_round, .int M_read, .ref aM_reads, .ref aM_tape, .int M_taped, .int M_latest, .int M_length, .int M_at, .int M_sort, .int M_from, .int M_till, .int M_fault, .int M_faultAt, .ref aM_fewest, .ref aM_may, .ref aM_then, .ref aM_cases, .ref aM_next, .ref aM_trace, .int M_traced])), (aM_lane, .inl (cI, 8, .inl M_lane)), (aM_many, .inl (cI, 8, .inl M_many)), (aM_item, .inl (cI, 320, .inl M_item))]) ⟨hx, hb, hml, hown, hts⟩ (c_X7_isSheet l dC dI cI cJ cZ cA p0 r1 e2) (va_cwS 1 hts gX7_sheet_X7_isSheet rfl rfl rfl (by decide +kernel) ⟨Nat.le_of_ble_eq_true rfl, Nat.le_of_ble_eq_true rfl⟩) hK hP hD hS hA [] [0, 1, 2, 3] [0, 1, 2, 3] rfl rfl rfl rfl (by decide) rfl rfl rfl hl.1 rfl (Nat.le_of_ble_eq_true rfl) dX7_sheet_6 ⟨Nat.zero_le _, Nat.zero_le _⟩ (fun H locs hP hD hS => ?_)
  refine lv_if_eq (tgt := 30) hx hb dX7_sheet_9 (by decide) (fun c3 => ?_) (fun c3 => ?_)
  · have h := ift c3 h
    refine lv_ldc hx hb hown k_2 dX7_sheet_30 ?_
    obtain ⟨rfl, rfl, rfl, rfl, rfl, rfl⟩ := sj6 h
    exact hret _ _ _ _ _ rfl rfl hP hD hS dX7_sheet_32
  · have h := ifn c3 h
    refine lv_iload_n hx hb dX7_sheet_12 rfl (lv_at hl 2 rfl) ?_
    refine lv_i2l hx hb dX7_sheet_13 rfl ?_
    refine lv_lconst (v := 0) hx hb dX7_sheet_14 (by decide) ?_
    refine lv_ldc2 hx hb hown k_3 dX7_sheet_15 ?_
    obtain ⟨r4, e5, h⟩ := bd1_s h
    refine kc_si (rest := []) (wr := [(aM, .inr (7, [.int 0, .int M_status, .ref aM_lane, .ref aM_many, .ref aM_item, .int M_posts, .ref aM_beside, .int M_rounds, .ref aM_round, .int M_read, .ref aM_reads, .ref aM_tape, .int M_taped, .int M_latest, .int M_length, .int M_at, .int M_sort, .int M_from, .int M_till, .int M_fault, .int M_faultAt, .ref aM_fewest, .ref aM_may, .ref aM_then, .ref aM_cases, .ref aM_next, .ref aM_trace, .int M_traced])), (aM_lane, .inl (cI, 8, .inl M_lane)), (aM_many, .inl (cI, 8, .inl M_many)), (aM_item, .inl (cI, 320, .inl M_item))]) (wF := [(aM, .inr (7, [.int 0, .int M_status, .ref aM_lane, .ref aM_many, .ref aM_item, .int M_posts, .ref aM_beside, .int M_rounds, .ref aM_round, .int M_read, .ref aM_reads, .ref aM_tape, .int M_taped, .int M_latest, .int M_length, .int M_at, .int M_sort, .int M_from, .int M_till, .int M_fault, .int M_faultAt, .ref aM_fewest, .ref aM_may, .ref aM_then, .ref aM_cases, .ref aM_next, .ref aM_trace, .int M_traced])), (aM_lane, .inl (cI, 8, .inl M_lane)), (aM_many, .inl (cI, 8, .inl M_many)), (aM_item, .inl (cI, 320, .inl M_item))]) ⟨hx, hb, hml, hown, hts⟩ (c_X7_in l dC dI cI cJ cZ cA p1.toInt64 0 2 r4 e5) (va_cwS 3 hts gX7_sheet_X7_in rfl rfl rfl (by decide +kernel) ⟨Nat.le_of_ble_eq_true rfl, Nat.le_of_ble_eq_true rfl⟩) hK hP hD hS hA [] [0, 1, 2, 3] [0, 1, 2, 3] rfl rfl rfl rfl (by decide) rfl rfl rfl hl.1 rfl (Nat.le_of_ble_eq_true rfl) dX7_sheet_18 ⟨Nat.zero_le _, Nat.zero_le _⟩ (fun H locs hP hD hS => ?_)
    refine lv_if_eq (tgt := 30) hx hb dX7_sheet_21 (by decide) (fun c6 => ?_) (fun c6 => ?_)
    · have h := ift c6 h
      refine lv_ldc hx hb hown k_2 dX7_sheet_30 ?_
      obtain ⟨rfl, rfl, rfl, rfl, rfl, rfl⟩ := sj6 h
      exact hret _ _ _ _ _ rfl rfl hP hD hS dX7_sheet_32
    · have h := ifn c6 h
      refine lv_iload_n hx hb dX7_sheet_24 rfl (lv_at hl 3 rfl) ?_
      refine lv_bipush (v := 40) hx hb dX7_sheet_25 (by decide) ?_
      refine lv_icmp_le (tgt := 33) hx hb dX7_sheet_27 (by decide) (fun c7 => ?_) (fun c7 => ?_)
      · have h := ift c7 h
        refine lv_aload_n hx hb dX7_sheet_33 rfl (lv_at hl 0 rfl) ?_
        refine lv_iconst (v := 0) hx hb dX7_sheet_34 (by decide) ?_
        refine ka_put (w1 := [(aM, .inr (7, [.int 0, .int 0, .ref aM_lane, .ref aM_many, .ref aM_item, .int M_posts, .ref aM_beside, .int M_rounds, .ref aM_round, .int M_read, .ref aM_reads, .ref aM_tape, .int M_taped, .int M_latest, .int M_length, .int M_at, .int M_sort, .int M_from, .int M_till, .int M_fault, .int M_faultAt, .ref aM_fewest, .ref aM_may, .ref aM_then, .ref aM_cases, .ref aM_next, .ref aM_trace, .int M_traced])), (aM_lane, .inl (cI, 8, .inl M_lane)), (aM_many, .inl (cI, 8, .inl M_many)), (aM_item, .inl (cI, 320, .inl M_item))]) (C := RX7) (T := TX7) (Nf := 28) (ref := "BeepNetModel") hx hb hts hiX7 tyX7 tyX7_ok nmX7 hown hK hP hD hS 0 rfl rfl 1 (by decide) k_4 rfl rfl rfl (Nat.le_of_ble_eq_true rfl) dX7_sheet_35 rfl (fun H locs hP hD hS => ?_)
        refine lv_iload_n hx hb dX7_sheet_38 rfl (lv_at hl 3 rfl) ?_
        refine lv_if_ge (tgt := 48) hx hb dX7_sheet_39 (by decide) (fun c8 => ?_) (fun c8 => ?_)
        · have h := ift c8 h
          refine lv_aload_n hx hb dX7_sheet_48 rfl (lv_at hl 0 rfl) ?_
          refine ka_get (v := .ref aM_lane) (C := RX7) (T := TX7) (Nf := 28) (ref := "BeepNetModel") hx hb hts hiX7 hown hK hP 0 rfl rfl 2 (by decide) k_5 rfl rfl dX7_sheet_49 ?_
          refine lv_iload_n hx hb dX7_sheet_52 rfl (lv_at hl 1 rfl) ?_
          refine lv_iload_n hx hb dX7_sheet_53 rfl (lv_at hl 2 rfl) ?_
          obtain ⟨g9, eg9, hn10, h⟩ := sti_s h
          refine ka_ist (w1 := [(aM, .inr (7, [.int 0, .int 0, .ref aM_lane, .ref aM_many, .ref aM_item, .int M_posts, .ref aM_beside, .int M_rounds, .ref aM_round, .int M_read, .ref aM_reads, .ref aM_tape, .int M_taped, .int M_latest, .int M_length, .int M_at, .int M_sort, .int M_from, .int M_till, .int M_fault, .int M_faultAt, .ref aM_fewest, .ref aM_may, .ref aM_then, .ref aM_cases, .ref aM_next, .ref aM_trace, .int M_traced])), (aM_lane, .inl (cI, 8, .inl g9)), (aM_many, .inl (cI, 8, .inl M_many)), (aM_item, .inl (cI, 320, .inl M_item))]) hx hb hK hP hD hS 1 0 eg9 rfl rfl hn10 dX7_sheet_54 rfl (fun H locs hP hD hS => ?_)
          refine lv_aload_n hx hb dX7_sheet_55 rfl (lv_at hl 0 rfl) ?_
          refine ka_get (v := .ref aM_many) (C := RX7) (T := TX7) (Nf := 28) (ref := "BeepNetModel") hx hb hts hiX7 hown hK hP 0 rfl rfl 3 (by decide) k_6 rfl rfl dX7_sheet_56 ?_
          refine lv_iload_n hx hb dX7_sheet_59 rfl (lv_at hl 1 rfl) ?_
          refine lv_iload_n hx hb dX7_sheet_60 rfl (lv_at hl 3 rfl) ?_
          obtain ⟨g11, eg11, hn12, h⟩ := sti_s h
          refine ka_ist (w1 := [(aM, .inr (7, [.int 0, .int 0, .ref aM_lane, .ref aM_many, .ref aM_item, .int M_posts, .ref aM_beside, .int M_rounds, .ref aM_round, .int M_read, .ref aM_reads, .ref aM_tape, .int M_taped, .int M_latest, .int M_length, .int M_at, .int M_sort, .int M_from, .int M_till, .int M_fault, .int M_faultAt, .ref aM_fewest, .ref aM_may, .ref aM_then, .ref aM_cases, .ref aM_next, .ref aM_trace, .int M_traced])), (aM_lane, .inl (cI, 8, .inl g9)), (aM_many, .inl (cI, 8, .inl g11)), (aM_item, .inl (cI, 320, .inl M_item))]) hx hb hK hP hD hS 2 0 eg11 rfl rfl hn12 dX7_sheet_61 rfl (fun H locs hP hD hS => ?_)
          refine lv_iconst (v := 0) hx hb dX7_sheet_62 (by decide) ?_
          refine lv_istore (lv' := [(4, .int 0), (0, .ref aM), (1, .int p0), (2, .int p1), (3, .int p2)]) hx hb dX7_sheet_63 hl (by decide) rfl (fun ls hl => ?_)
          exact hC65 FU 0 0 g9 g11 M_item p0 p2 0 _ _ _ h hP hD hS (lv_sub hl [1, 2, 4, 0] rfl)
        · have h := ifn c8 h
          refine lv_aload_n hx hb dX7_sheet_42 rfl (lv_at hl 0 rfl) ?_
          refine lv_iconst (v := 4) hx hb dX7_sheet_43 (by decide) ?_
          obtain ⟨r13, M_status_14, e15, h⟩ := bd2_s h
          refine kc_vi (rest := []) (wr := [(aM_lane, .inl (cI, 8, .inl M_lane)), (aM_many, .inl (cI, 8, .inl M_many)), (aM_item, .inl (cI, 320, .inl M_item))]) (wF := [(aM, .inr (7, [.int 0, .int M_status_14, .ref aM_lane, .ref aM_many, .ref aM_item, .int M_posts, .ref aM_beside, .int M_rounds, .ref aM_round, .int M_read, .ref aM_reads, .ref aM_tape, .int M_taped, .int M_latest, .int M_length, .int M_at, .int M_sort, .int M_from, .int M_till, .int M_fault, .int M_faultAt, .ref aM_fewest, .ref aM_may, .ref aM_then, .ref aM_cases, .ref aM_next, .ref aM_trace, .int M_traced])), (aM_lane, .inl (cI, 8, .inl M_lane)), (aM_many, .inl (cI, 8, .inl M_many)), (aM_item, .inl (cI, 320, .inl M_item))]) ⟨hx, hb, hml, hown, hts⟩ (c_X7_found l dC dI cI cJ cZ cA aM aM_lane aM_many aM_item aM_beside aM_round aM_reads aM_tape aM_fewest aM_may aM_then aM_cases aM_next aM_trace 0 0 M_posts M_rounds M_read M_taped M_latest M_length M_at M_sort M_from M_till M_fault M_faultAt M_traced 4 r13 M_status_14 e15) (cwV 1 hts gX7_sheet_X7_found rfl rfl rfl (by decide +kernel) ⟨Nat.le_of_ble_eq_true rfl, Nat.le_of_ble_eq_true rfl⟩) hK hP hD hS hA [0] [1, 2, 3] [3, 0, 1, 2] 0 rfl rfl rfl rfl (by decide) rfl rfl rfl rfl rfl rfl hl.1 rfl (Nat.le_of_ble_eq_true rfl) dX7_sheet_44 ⟨Nat.zero_le _, Nat.zero_le _⟩ (fun H locs hP hD hS => ?_)
          obtain ⟨rfl, rfl, rfl, rfl, rfl, rfl⟩ := sj6 h
          exact hret _ _ _ _ _ rfl rfl hP hD hS dX7_sheet_47
      · have h := ifn c7 h
        refine lv_ldc hx hb hown k_2 dX7_sheet_30 ?_
        obtain ⟨rfl, rfl, rfl, rfl, rfl, rfl⟩ := sj6 h
        exact hret _ _ _ _ _ rfl rfl hP hD hS dX7_sheet_32
set_option maxHeartbeats 4000000 in
set_option maxRecDepth 100000 in
theorem c_X7_set (l : Launch) (dC : Nat → ClassId) (dI : Nat → Nat → Nat) (cI cJ cZ cA : ClassId) (aM aM_lane aM_many aM_item aM_beside aM_round aM_reads aM_tape aM_fewest aM_may aM_then aM_cases aM_next aM_trace : Nat) (M_thrown : Int32) (M_status : Int32) (M_posts : Int32) (M_rounds : Int32) (M_read : Int32) (M_taped : Int32) (M_latest : Int32) (M_length : Int32) (M_at : Int32) (M_sort : Int32) (M_from : Int32) (M_till : Int32) (M_fault : Int32) (M_faultAt : Int32) (M_traced : Int32) (M_lane : Nat → Int32) (M_many : Nat → Int32) (M_item : Nat → Int32) (p0 : Int32) (p1 : Int32) (p2 : Int32) (rr : Int32) (M_thrown_z : Int32) (M_status_z : Int32) (M_item_z : Nat → Int32) (h : fX7_set M_thrown M_status M_lane M_many M_item p0 p1 p2 = some (rr, M_thrown_z, M_status_z, M_item_z)) : Cti l yX7_set wsX7_set rmX7_set (dC, dI) (tyL cI cJ cZ cA) [(aM, .inr (7, [.int M_thrown, .int M_status, .ref aM_lane, .ref aM_many, .ref aM_item, .int M_posts, .ref aM_beside, .int M_rounds, .ref aM_round, .int M_read, .ref aM_reads, .ref aM_tape, .int M_taped, .int M_latest, .int M_length, .int M_at, .int M_sort, .int M_from, .int M_till, .int M_fault, .int M_faultAt, .ref aM_fewest, .ref aM_may, .ref aM_then, .ref aM_cases, .ref aM_next, .ref aM_trace, .int M_traced])), (aM_lane, .inl (cI, 8, .inl M_lane)), (aM_many, .inl (cI, 8, .inl M_many)), (aM_item, .inl (cI, 320, .inl M_item))] [(aM, .inr (7, [.int M_thrown_z, .int M_status_z, .ref aM_lane, .ref aM_many, .ref aM_item, .int M_posts, .ref aM_beside, .int M_rounds, .ref aM_round, .int M_read, .ref aM_reads, .ref aM_tape, .int M_taped, .int M_latest, .int M_length, .int M_at, .int M_sort, .int M_from, .int M_till, .int M_fault, .int M_faultAt, .ref aM_fewest, .ref aM_may, .ref aM_then, .ref aM_cases, .ref aM_next, .ref aM_trace, .int M_traced])), (aM_lane, .inl (cI, 8, .inl M_lane)), (aM_many, .inl (cI, 8, .inl M_many)), (aM_item, .inl (cI, 320, .inl M_item_z))] [.ref aM, .int p0, .int p1, .int p2] rr := by
  refine ct_int (ty := .int) (cc := cX7_set) (maxL := 4) (by decide) rfl (Nat.le_of_ble_eq_true rfl) ?_
  intro p e s m args below meth c A Q ls hx hb hml hown hts hA hK hP hD hS hl hret
  have hl : lv_has ls 4 [(0, .ref aM), (1, .int p0), (2, .int p1), (3, .int p2)] := hl
  have k_0 := hts (.fieldLink RX7 16 "BeepNetModel" "item" "[I") (by decide +kernel)
  have k_1 := hts (.fieldLink RX7 51 "BeepNetModel" "thrown" "I") (by decide +kernel)
  have k_2 := hts (.fieldLink RX7 55 "BeepNetModel" "status" "I") (by decide +kernel)
  have k_3 := hts (.fieldLink RX7 7 "BeepNetModel" "lane" "[I") (by decide +kernel)
  have k_4 := hts (.fieldLink RX7 13 "BeepNetModel" "many" "[I") (by decide +kernel)
  have k_5 := hts (.constant RX7 71 (-1000001)) (by decide +kernel)
  have hiX7 : ∀ w ∈ u_ws RX7 TX7 28, w ∈ wsX7_set := fun w hw => List.mem_cons_of_mem _ (List.mem_append_right _ hw)
  have hC99 : ∀ (M_thrown : Int32) (M_status : Int32) (M_item : Nat → Int32) (x1 : Int32) (x2 : Int32) (t1 : Int32) (t2 : Int32) (H : Heap) (locs : List Loc) (ls : Array Slot), fX7_set_c99 M_lane M_many M_thrown M_status M_item x1 x2 t1 t2 = some (rr, M_thrown_z, M_status_z, M_item_z) → va_P (dC, dI) vwCl [(aM, .inr (7, [.int M_thrown, .int M_status, .ref aM_lane, .ref aM_many, .ref aM_item, .int M_posts, .ref aM_beside, .int M_rounds, .ref aM_round, .int M_read, .ref aM_reads, .ref aM_tape, .int M_taped, .int M_latest, .int M_length, .int M_at, .int M_sort, .int M_from, .int M_till, .int M_fault, .int M_faultAt, .ref aM_fewest, .ref aM_may, .ref aM_then, .ref aM_cases, .ref aM_next, .ref aM_trace, .int M_traced])), (aM_lane, .inl (cI, 8, .inl M_lane)), (aM_many, .inl (cI, 8, .inl M_many)), (aM_item, .inl (cI, 320, .inl M_item))] H → va_D A [(aM, .inr (7, [.int M_thrown, .int M_status, .ref aM_lane, .ref aM_many, .ref aM_item, .int M_posts, .ref aM_beside, .int M_rounds, .ref aM_round, .int M_read, .ref aM_reads, .ref aM_tape, .int M_taped, .int M_latest, .int M_length, .int M_at, .int M_sort, .int M_from, .int M_till, .int M_fault, .int M_faultAt, .ref aM_fewest, .ref aM_may, .ref aM_then, .ref aM_cases, .ref aM_next, .ref aM_trace, .int M_traced])), (aM_lane, .inl (cI, 8, .inl M_lane)), (aM_many, .inl (cI, 8, .inl M_many)), (aM_item, .inl (cI, 320, .inl M_item))] → va_S A s.heap H locs → lv_has ls 4 [(0, .ref aM), (1, .int x1), (2, .int x2)] → W p l e rmX7_set s m args below meth c H locs 0 0 Q (F0 m 99 ls [.int t2, .int t1, .ref aM_item]) := by
    intro M_thrown M_status M_item x1 x2 t1 t2 H locs ls h hP hD hS hl
    unfold fX7_set_c99 at h
    obtain ⟨g10001, eg10001, hn10002, h⟩ := sti_s h
    refine ka_ist (w1 := [(aM, .inr (7, [.int M_thrown, .int M_status, .ref aM_lane, .ref aM_many, .ref aM_item, .int M_posts, .ref aM_beside, .int M_rounds, .ref aM_round, .int M_read, .ref aM_reads, .ref aM_tape, .int M_taped, .int M_latest, .int M_length, .int M_at, .int M_sort, .int M_from, .int M_till, .int M_fault, .int M_faultAt, .ref aM_fewest, .ref aM_may, .ref aM_then, .ref aM_cases, .ref aM_next, .ref aM_trace, .int M_traced])), (aM_lane, .inl (cI, 8, .inl M_lane)), (aM_many, .inl (cI, 8, .inl M_many)), (aM_item, .inl (cI, 320, .inl g10001))]) hx hb hK hP hD hS 3 0 eg10001 rfl rfl hn10002 dX7_set_99 rfl (fun H locs hP hD hS => ?_)
    refine lv_aload_n hx hb dX7_set_100 rfl (lv_at hl 0 rfl) ?_
    refine ka_get (v := .ref aM_item) (C := RX7) (T := TX7) (Nf := 28) (ref := "BeepNetModel") hx hb hts hiX7 hown hK hP 0 rfl rfl 4 (by decide) k_0 rfl rfl dX7_set_101 ?_
    refine lv_bipush (v := 40) hx hb dX7_set_104 (by decide) ?_
    refine lv_iload_n hx hb dX7_set_106 rfl (lv_at hl 1 rfl) ?_
    refine lv_imul hx hb dX7_set_107 ?_
    refine lv_iload_n hx hb dX7_set_108 rfl (lv_at hl 2 rfl) ?_
    refine lv_iadd hx hb dX7_set_109 ?_
    obtain ⟨v10003, ev10003, hn10004, h⟩ := ldx_s h
    refine ka_ild hx hb hK hP 3 0 ev10003 rfl rfl hn10004 dX7_set_110 ?_
    obtain ⟨rfl, rfl, rfl, rfl⟩ := sj4 h
    exact hret _ _ _ _ _ rfl rfl hP hD hS dX7_set_111
  unfold fX7_set at h
  refine lv_aload_n hx hb dX7_set_0 rfl (lv_at hl 0 rfl) ?_
  refine lv_iconst (v := 0) hx hb dX7_set_1 (by decide) ?_
  refine ka_put (w1 := [(aM, .inr (7, [.int 0, .int M_status, .ref aM_lane, .ref aM_many, .ref aM_item, .int M_posts, .ref aM_beside, .int M_rounds, .ref aM_round, .int M_read, .ref aM_reads, .ref aM_tape, .int M_taped, .int M_latest, .int M_length, .int M_at, .int M_sort, .int M_from, .int M_till, .int M_fault, .int M_faultAt, .ref aM_fewest, .ref aM_may, .ref aM_then, .ref aM_cases, .ref aM_next, .ref aM_trace, .int M_traced])), (aM_lane, .inl (cI, 8, .inl M_lane)), (aM_many, .inl (cI, 8, .inl M_many)), (aM_item, .inl (cI, 320, .inl M_item))]) (C := RX7) (T := TX7) (Nf := 28) (ref := "BeepNetModel") hx hb hts hiX7 tyX7 tyX7_ok nmX7 hown hK hP hD hS 0 rfl rfl 0 (by decide) k_1 rfl rfl rfl (Nat.le_of_ble_eq_true rfl) dX7_set_2 rfl (fun H locs hP hD hS => ?_)
  refine lv_iload_n hx hb dX7_set_5 rfl (lv_at hl 1 rfl) ?_
  obtain ⟨r1, e2, h⟩ := bd1_s h
  refine kc_si (rest := []) (wr := [(aM, .inr (7, [.int 0, .int M_status, .ref aM_lane, .ref aM_many, .ref aM_item, .int M_posts, .ref aM_beside, .int M_rounds, .ref aM_round, .int M_read, .ref aM_reads, .ref aM_tape, .int M_taped, .int M_latest, .int M_length, .int M_at, .int M_sort, .int M_from, .int M_till, .int M_fault, .int M_faultAt, .ref aM_fewest, .ref aM_may, .ref aM_then, .ref aM_cases, .ref aM_next, .ref aM_trace, .int M_traced])), (aM_lane, .inl (cI, 8, .inl M_lane)), (aM_many, .inl (cI, 8, .inl M_many)), (aM_item, .inl (cI, 320, .inl M_item))]) (wF := [(aM, .inr (7, [.int 0, .int M_status, .ref aM_lane, .ref aM_many, .ref aM_item, .int M_posts, .ref aM_beside, .int M_rounds, .ref aM_round, .int M_read, .ref aM_reads, .ref aM_tape, .int M_taped, .int M_latest, .int M_length, .int M_at, .int M_sort, .int M_from, .int M_till, .int M_fault, .int M_faultAt, .ref aM_fewest, .ref aM_may, .ref aM_then, .ref aM_cases, .ref aM_next, .ref aM_trace, .int M_traced])), (aM_lane, .inl (cI, 8, .inl M_lane)), (aM_many, .inl (cI, 8, .inl M_many)), (aM_item, .inl (cI, 320, .inl M_item))]) ⟨hx, hb, hml, hown, hts⟩ (c_X7_isSheet l dC dI cI cJ cZ cA p0 r1 e2) (va_cwS 1 hts gX7_set_X7_isSheet rfl rfl rfl (by decide +kernel) ⟨Nat.le_of_ble_eq_true rfl, Nat.le_of_ble_eq_true rfl⟩) hK hP hD hS hA [] [0, 1, 2, 3] [0, 1, 2, 3] rfl rfl rfl rfl (by decide) rfl rfl rfl hl.1 rfl (Nat.le_of_ble_eq_true rfl) dX7_set_6 ⟨Nat.zero_le _, Nat.zero_le _⟩ (fun H locs hP hD hS => ?_)
  refine lv_if_ne (tgt := 15) hx hb dX7_set_9 (by decide) (fun c3 => ?_) (fun c3 => ?_)
  · have h := ifn c3 h
    refine lv_aload_n hx hb dX7_set_15 rfl (lv_at hl 0 rfl) ?_
    refine lv_iconst (v := 0) hx hb dX7_set_16 (by decide) ?_
    refine ka_put (w1 := [(aM, .inr (7, [.int 0, .int 0, .ref aM_lane, .ref aM_many, .ref aM_item, .int M_posts, .ref aM_beside, .int M_rounds, .ref aM_round, .int M_read, .ref aM_reads, .ref aM_tape, .int M_taped, .int M_latest, .int M_length, .int M_at, .int M_sort, .int M_from, .int M_till, .int M_fault, .int M_faultAt, .ref aM_fewest, .ref aM_may, .ref aM_then, .ref aM_cases, .ref aM_next, .ref aM_trace, .int M_traced])), (aM_lane, .inl (cI, 8, .inl M_lane)), (aM_many, .inl (cI, 8, .inl M_many)), (aM_item, .inl (cI, 320, .inl M_item))]) (C := RX7) (T := TX7) (Nf := 28) (ref := "BeepNetModel") hx hb hts hiX7 tyX7 tyX7_ok nmX7 hown hK hP hD hS 0 rfl rfl 1 (by decide) k_2 rfl rfl rfl (Nat.le_of_ble_eq_true rfl) dX7_set_17 rfl (fun H locs hP hD hS => ?_)
    refine lv_aload_n hx hb dX7_set_20 rfl (lv_at hl 0 rfl) ?_
    refine ka_get (v := .ref aM_lane) (C := RX7) (T := TX7) (Nf := 28) (ref := "BeepNetModel") hx hb hts hiX7 hown hK hP 0 rfl rfl 2 (by decide) k_3 rfl rfl dX7_set_21 ?_
    refine lv_iload_n hx hb dX7_set_24 rfl (lv_at hl 1 rfl) ?_
    obtain ⟨v4, ev4, hn5, h⟩ := ldx_s h
    refine ka_ild hx hb hK hP 1 0 ev4 rfl rfl hn5 dX7_set_25 ?_
    refine lv_if_ge (tgt := 35) hx hb dX7_set_26 (by decide) (fun c6 => ?_) (fun c6 => ?_)
    · have h := ift c6 h
      refine lv_iload_n hx hb dX7_set_35 rfl (lv_at hl 2 rfl) ?_
      refine lv_i2l hx hb dX7_set_36 rfl ?_
      refine lv_lconst (v := 0) hx hb dX7_set_37 (by decide) ?_
      refine lv_aload_n hx hb dX7_set_38 rfl (lv_at hl 0 rfl) ?_
      refine ka_get (v := .ref aM_many) (C := RX7) (T := TX7) (Nf := 28) (ref := "BeepNetModel") hx hb hts hiX7 hown hK hP 0 rfl rfl 3 (by decide) k_4 rfl rfl dX7_set_39 ?_
      refine lv_iload_n hx hb dX7_set_42 rfl (lv_at hl 1 rfl) ?_
      obtain ⟨v7, ev7, hn8, h⟩ := ldx_s h
      refine ka_ild hx hb hK hP 2 0 ev7 rfl rfl hn8 dX7_set_43 ?_
      refine lv_iconst (v := 1) hx hb dX7_set_44 (by decide) ?_
      refine lv_isub hx hb dX7_set_45 ?_
      refine lv_i2l hx hb dX7_set_46 rfl ?_
      obtain ⟨r9, e10, h⟩ := bd1_s h
      refine kc_si (rest := []) (wr := [(aM, .inr (7, [.int 0, .int 0, .ref aM_lane, .ref aM_many, .ref aM_item, .int M_posts, .ref aM_beside, .int M_rounds, .ref aM_round, .int M_read, .ref aM_reads, .ref aM_tape, .int M_taped, .int M_latest, .int M_length, .int M_at, .int M_sort, .int M_from, .int M_till, .int M_fault, .int M_faultAt, .ref aM_fewest, .ref aM_may, .ref aM_then, .ref aM_cases, .ref aM_next, .ref aM_trace, .int M_traced])), (aM_lane, .inl (cI, 8, .inl M_lane)), (aM_many, .inl (cI, 8, .inl M_many)), (aM_item, .inl (cI, 320, .inl M_item))]) (wF := [(aM, .inr (7, [.int 0, .int 0, .ref aM_lane, .ref aM_many, .ref aM_item, .int M_posts, .ref aM_beside, .int M_rounds, .ref aM_round, .int M_read, .ref aM_reads, .ref aM_tape, .int M_taped, .int M_latest, .int M_length, .int M_at, .int M_sort, .int M_from, .int M_till, .int M_fault, .int M_faultAt, .ref aM_fewest, .ref aM_may, .ref aM_then, .ref aM_cases, .ref aM_next, .ref aM_trace, .int M_traced])), (aM_lane, .inl (cI, 8, .inl M_lane)), (aM_many, .inl (cI, 8, .inl M_many)), (aM_item, .inl (cI, 320, .inl M_item))]) ⟨hx, hb, hml, hown, hts⟩ (c_X7_in l dC dI cI cJ cZ cA p1.toInt64 0 ((v7 - (1 : Int32)).toInt64) r9 e10) (va_cwS 3 hts gX7_set_X7_in rfl rfl rfl (by decide +kernel) ⟨Nat.le_of_ble_eq_true rfl, Nat.le_of_ble_eq_true rfl⟩) hK hP hD hS hA [] [0, 1, 2, 3] [0, 1, 2, 3] rfl rfl rfl rfl (by decide) rfl rfl rfl hl.1 rfl (Nat.le_of_ble_eq_true rfl) dX7_set_47 ⟨Nat.zero_le _, Nat.zero_le _⟩ (fun H locs hP hD hS => ?_)
      refine lv_if_ne (tgt := 59) hx hb dX7_set_50 (by decide) (fun c11 => ?_) (fun c11 => ?_)
      · have h := ifn c11 h
        refine lv_aload_n hx hb dX7_set_59 rfl (lv_at hl 0 rfl) ?_
        refine ka_get (v := .ref aM_item) (C := RX7) (T := TX7) (Nf := 28) (ref := "BeepNetModel") hx hb hts hiX7 hown hK hP 0 rfl rfl 4 (by decide) k_0 rfl rfl dX7_set_60 ?_
        refine lv_bipush (v := 40) hx hb dX7_set_63 (by decide) ?_
        refine lv_iload_n hx hb dX7_set_65 rfl (lv_at hl 1 rfl) ?_
        refine lv_imul hx hb dX7_set_66 ?_
        refine lv_iload_n hx hb dX7_set_67 rfl (lv_at hl 2 rfl) ?_
        refine lv_iadd hx hb dX7_set_68 ?_
        refine lv_aload_n hx hb dX7_set_69 rfl (lv_at hl 0 rfl) ?_
        refine ka_get (v := .ref aM_lane) (C := RX7) (T := TX7) (Nf := 28) (ref := "BeepNetModel") hx hb hts hiX7 hown hK hP 0 rfl rfl 2 (by decide) k_3 rfl rfl dX7_set_70 ?_
        refine lv_iload_n hx hb dX7_set_73 rfl (lv_at hl 1 rfl) ?_
        obtain ⟨v12, ev12, hn13, h⟩ := ldx_s h
        refine ka_ild hx hb hK hP 1 0 ev12 rfl rfl hn13 dX7_set_74 ?_
        refine lv_if_ne (tgt := 83) hx hb dX7_set_75 (by decide) (fun c14 => ?_) (fun c14 => ?_)
        · have h := ifn c14 h
          refine lv_aload_n hx hb dX7_set_83 rfl (lv_at hl 0 rfl) ?_
          refine ka_get (v := .ref aM_lane) (C := RX7) (T := TX7) (Nf := 28) (ref := "BeepNetModel") hx hb hts hiX7 hown hK hP 0 rfl rfl 2 (by decide) k_3 rfl rfl dX7_set_84 ?_
          refine lv_iload_n hx hb dX7_set_87 rfl (lv_at hl 1 rfl) ?_
          obtain ⟨v15, ev15, hn16, h⟩ := ldx_s h
          refine ka_ild hx hb hK hP 1 0 ev15 rfl rfl hn16 dX7_set_88 ?_
          refine lv_iconst (v := 1) hx hb dX7_set_89 (by decide) ?_
          refine lv_icmp_ne (tgt := 98) hx hb dX7_set_90 (by decide) (fun c17 => ?_) (fun c17 => ?_)
          · have h := ifn c17 h
            refine lv_iload_n hx hb dX7_set_98 rfl (lv_at hl 3 rfl) ?_
            exact hC99 0 0 M_item p0 p1 (((40 : Int32) * p0) + p1) p2 _ _ _ h hP hD hS (lv_sub hl [0, 1, 2] rfl)
          · have h := ift c17 h
            refine lv_iload_n hx hb dX7_set_93 rfl (lv_at hl 3 rfl) ?_
            refine lv_i2s hx hb dX7_set_94 rfl ?_
            refine lv_goto (tgt := 99) hx hb dX7_set_95 (by decide) ?_
            exact hC99 0 0 M_item p0 p1 (((40 : Int32) * p0) + p1) p2.toInt16.toInt32 _ _ _ h hP hD hS (lv_sub hl [0, 1, 2] rfl)
        · have h := ift c14 h
          refine lv_iload_n hx hb dX7_set_78 rfl (lv_at hl 3 rfl) ?_
          refine lv_i2b hx hb dX7_set_79 rfl ?_
          refine lv_goto (tgt := 99) hx hb dX7_set_80 (by decide) ?_
          exact hC99 0 0 M_item p0 p1 (((40 : Int32) * p0) + p1) p2.toInt8.toInt32 _ _ _ h hP hD hS (lv_sub hl [0, 1, 2] rfl)
      · have h := ift c11 h
        refine lv_aload_n hx hb dX7_set_53 rfl (lv_at hl 0 rfl) ?_
        refine lv_iconst (v := 2) hx hb dX7_set_54 (by decide) ?_
        obtain ⟨r18, M_status_19, e20, h⟩ := bd2_s h
        refine kc_vi (rest := []) (wr := [(aM_lane, .inl (cI, 8, .inl M_lane)), (aM_many, .inl (cI, 8, .inl M_many)), (aM_item, .inl (cI, 320, .inl M_item))]) (wF := [(aM, .inr (7, [.int 0, .int M_status_19, .ref aM_lane, .ref aM_many, .ref aM_item, .int M_posts, .ref aM_beside, .int M_rounds, .ref aM_round, .int M_read, .ref aM_reads, .ref aM_tape, .int M_taped, .int M_latest, .int M_length, .int M_at, .int M_sort, .int M_from, .int M_till, .int M_fault, .int M_faultAt, .ref aM_fewest, .ref aM_may, .ref aM_then, .ref aM_cases, .ref aM_next, .ref aM_trace, .int M_traced])), (aM_lane, .inl (cI, 8, .inl M_lane)), (aM_many, .inl (cI, 8, .inl M_many)), (aM_item, .inl (cI, 320, .inl M_item))]) ⟨hx, hb, hml, hown, hts⟩ (c_X7_found l dC dI cI cJ cZ cA aM aM_lane aM_many aM_item aM_beside aM_round aM_reads aM_tape aM_fewest aM_may aM_then aM_cases aM_next aM_trace 0 0 M_posts M_rounds M_read M_taped M_latest M_length M_at M_sort M_from M_till M_fault M_faultAt M_traced 2 r18 M_status_19 e20) (cwV 1 hts gX7_set_X7_found rfl rfl rfl (by decide +kernel) ⟨Nat.le_of_ble_eq_true rfl, Nat.le_of_ble_eq_true rfl⟩) hK hP hD hS hA [0] [1, 2, 3] [3, 0, 1, 2] 0 rfl rfl rfl rfl (by decide) rfl rfl rfl rfl rfl rfl hl.1 rfl (Nat.le_of_ble_eq_true rfl) dX7_set_55 ⟨Nat.zero_le _, Nat.zero_le _⟩ (fun H locs hP hD hS => ?_)
        obtain ⟨rfl, rfl, rfl, rfl⟩ := sj4 h
        exact hret _ _ _ _ _ rfl rfl hP hD hS dX7_set_58
    · have h := ifn c6 h
      refine lv_aload_n hx hb dX7_set_29 rfl (lv_at hl 0 rfl) ?_
      refine lv_iconst (v := 1) hx hb dX7_set_30 (by decide) ?_
      obtain ⟨r21, M_status_22, e23, h⟩ := bd2_s h
      refine kc_vi (rest := []) (wr := [(aM_lane, .inl (cI, 8, .inl M_lane)), (aM_many, .inl (cI, 8, .inl M_many)), (aM_item, .inl (cI, 320, .inl M_item))]) (wF := [(aM, .inr (7, [.int 0, .int M_status_22, .ref aM_lane, .ref aM_many, .ref aM_item, .int M_posts, .ref aM_beside, .int M_rounds, .ref aM_round, .int M_read, .ref aM_reads, .ref aM_tape, .int M_taped, .int M_latest, .int M_length, .int M_at, .int M_sort, .int M_from, .int M_till, .int M_fault, .int M_faultAt, .ref aM_fewest, .ref aM_may, .ref aM_then, .ref aM_cases, .ref aM_next, .ref aM_trace, .int M_traced])), (aM_lane, .inl (cI, 8, .inl M_lane)), (aM_many, .inl (cI, 8, .inl M_many)), (aM_item, .inl (cI, 320, .inl M_item))]) ⟨hx, hb, hml, hown, hts⟩ (c_X7_found l dC dI cI cJ cZ cA aM aM_lane aM_many aM_item aM_beside aM_round aM_reads aM_tape aM_fewest aM_may aM_then aM_cases aM_next aM_trace 0 0 M_posts M_rounds M_read M_taped M_latest M_length M_at M_sort M_from M_till M_fault M_faultAt M_traced 1 r21 M_status_22 e23) (cwV 1 hts gX7_set_X7_found rfl rfl rfl (by decide +kernel) ⟨Nat.le_of_ble_eq_true rfl, Nat.le_of_ble_eq_true rfl⟩) hK hP hD hS hA [0] [1, 2, 3] [3, 0, 1, 2] 0 rfl rfl rfl rfl (by decide) rfl rfl rfl rfl rfl rfl hl.1 rfl (Nat.le_of_ble_eq_true rfl) dX7_set_31 ⟨Nat.zero_le _, Nat.zero_le _⟩ (fun H locs hP hD hS => ?_)
      obtain ⟨rfl, rfl, rfl, rfl⟩ := sj4 h
      exact hret _ _ _ _ _ rfl rfl hP hD hS dX7_set_34
  · have h := ift c3 h
    refine lv_ldc hx hb hown k_5 dX7_set_12 ?_
    obtain ⟨rfl, rfl, rfl, rfl⟩ := sj4 h
    exact hret _ _ _ _ _ rfl rfl hP hD hS dX7_set_14
set_option maxHeartbeats 4000000 in
set_option maxRecDepth 100000 in
theorem c_X7_copy (l : Launch) (dC : Nat → ClassId) (dI : Nat → Nat → Nat) (cI cJ cZ cA : ClassId) (aM aM_lane aM_many aM_item aM_beside aM_round aM_reads aM_tape aM_fewest aM_may aM_then aM_cases aM_next aM_trace : Nat) (M_thrown : Int32) (M_status : Int32) (M_posts : Int32) (M_rounds : Int32) (M_read : Int32) (M_taped : Int32) (M_latest : Int32) (M_length : Int32) (M_at : Int32) (M_sort : Int32) (M_from : Int32) (M_till : Int32) (M_fault : Int32) (M_faultAt : Int32) (M_traced : Int32) (M_lane : Nat → Int32) (M_many : Nat → Int32) (M_item : Nat → Int32) (p0 : Int32) (p1 : Int32) (p2 : Int32) (p3 : Int32) (p4 : Int32) (rr : Int32) (M_thrown_z : Int32) (M_status_z : Int32) (M_item_z : Nat → Int32) (h : fX7_copy M_thrown M_status M_lane M_many M_item p0 p1 p2 p3 p4 = some (rr, M_thrown_z, M_status_z, M_item_z)) : Cti l yX7_copy wsX7_copy rmX7_copy (dC, dI) (tyL cI cJ cZ cA) [(aM, .inr (7, [.int M_thrown, .int M_status, .ref aM_lane, .ref aM_many, .ref aM_item, .int M_posts, .ref aM_beside, .int M_rounds, .ref aM_round, .int M_read, .ref aM_reads, .ref aM_tape, .int M_taped, .int M_latest, .int M_length, .int M_at, .int M_sort, .int M_from, .int M_till, .int M_fault, .int M_faultAt, .ref aM_fewest, .ref aM_may, .ref aM_then, .ref aM_cases, .ref aM_next, .ref aM_trace, .int M_traced])), (aM_lane, .inl (cI, 8, .inl M_lane)), (aM_many, .inl (cI, 8, .inl M_many)), (aM_item, .inl (cI, 320, .inl M_item))] [(aM, .inr (7, [.int M_thrown_z, .int M_status_z, .ref aM_lane, .ref aM_many, .ref aM_item, .int M_posts, .ref aM_beside, .int M_rounds, .ref aM_round, .int M_read, .ref aM_reads, .ref aM_tape, .int M_taped, .int M_latest, .int M_length, .int M_at, .int M_sort, .int M_from, .int M_till, .int M_fault, .int M_faultAt, .ref aM_fewest, .ref aM_may, .ref aM_then, .ref aM_cases, .ref aM_next, .ref aM_trace, .int M_traced])), (aM_lane, .inl (cI, 8, .inl M_lane)), (aM_many, .inl (cI, 8, .inl M_many)), (aM_item, .inl (cI, 320, .inl M_item_z))] [.ref aM, .int p0, .int p1, .int p2, .int p3, .int p4] rr := by
  refine ct_int (ty := .int) (cc := cX7_copy) (maxL := 9) (by decide) rfl (Nat.le_of_ble_eq_true rfl) ?_
  intro p e s m args below meth c A Q ls hx hb hml hown hts hA hK hP hD hS hl hret
  have hl : lv_has ls 9 [(0, .ref aM), (1, .int p0), (2, .int p1), (3, .int p2), (4, .int p3), (5, .int p4)] := hl
  have k_0 := hts (.fieldLink RX7 16 "BeepNetModel" "item" "[I") (by decide +kernel)
  have k_1 := hts (.fieldLink RX7 51 "BeepNetModel" "thrown" "I") (by decide +kernel)
  have k_2 := hts (.constant RX7 71 (-1000001)) (by decide +kernel)
  have k_3 := hts (.fieldLink RX7 55 "BeepNetModel" "status" "I") (by decide +kernel)
  have k_4 := hts (.fieldLink RX7 7 "BeepNetModel" "lane" "[I") (by decide +kernel)
  have k_5 := hts (.fieldLink RX7 13 "BeepNetModel" "many" "[I") (by decide +kernel)
  have hiX7 : ∀ w ∈ u_ws RX7 TX7 28, w ∈ wsX7_copy := fun w hw => List.mem_cons_of_mem _ (List.mem_append_right _ hw)
  have hC143 : ∀ (n : Nat) (M_thrown : Int32) (M_status : Int32) (M_item : Nat → Int32) (x1 : Int32) (x2 : Int32) (x3 : Int32) (x4 : Int32) (x5 : Int32) (x6 : Int32) (x7 : Int32) (H : Heap) (locs : List Loc) (ls : Array Slot), fX7_copy_c143 M_lane M_many n M_thrown M_status M_item x1 x2 x3 x4 x5 x6 x7 = some (rr, M_thrown_z, M_status_z, M_item_z) → va_P (dC, dI) vwCl [(aM, .inr (7, [.int M_thrown, .int M_status, .ref aM_lane, .ref aM_many, .ref aM_item, .int M_posts, .ref aM_beside, .int M_rounds, .ref aM_round, .int M_read, .ref aM_reads, .ref aM_tape, .int M_taped, .int M_latest, .int M_length, .int M_at, .int M_sort, .int M_from, .int M_till, .int M_fault, .int M_faultAt, .ref aM_fewest, .ref aM_may, .ref aM_then, .ref aM_cases, .ref aM_next, .ref aM_trace, .int M_traced])), (aM_lane, .inl (cI, 8, .inl M_lane)), (aM_many, .inl (cI, 8, .inl M_many)), (aM_item, .inl (cI, 320, .inl M_item))] H → va_D A [(aM, .inr (7, [.int M_thrown, .int M_status, .ref aM_lane, .ref aM_many, .ref aM_item, .int M_posts, .ref aM_beside, .int M_rounds, .ref aM_round, .int M_read, .ref aM_reads, .ref aM_tape, .int M_taped, .int M_latest, .int M_length, .int M_at, .int M_sort, .int M_from, .int M_till, .int M_fault, .int M_faultAt, .ref aM_fewest, .ref aM_may, .ref aM_then, .ref aM_cases, .ref aM_next, .ref aM_trace, .int M_traced])), (aM_lane, .inl (cI, 8, .inl M_lane)), (aM_many, .inl (cI, 8, .inl M_many)), (aM_item, .inl (cI, 320, .inl M_item))] → va_S A s.heap H locs → lv_has ls 9 [(0, .ref aM), (1, .int x1), (2, .int x2), (3, .int x3), (4, .int x4), (5, .int x5), (6, .int x6), (7, .int x7)] → W p l e rmX7_copy s m args below meth c H locs 0 0 Q (F0 m 143 ls []) := by
    intro n
    induction n with
    | zero => intro M_thrown M_status M_item x1 x2 x3 x4 x5 x6 x7 H locs ls h; rw [fX7_copy_c143] at h; cases h
    | succ n143 ih143 =>
      have hC167 : ∀ (M_thrown : Int32) (M_status : Int32) (M_item : Nat → Int32) (x1 : Int32) (x2 : Int32) (x3 : Int32) (x4 : Int32) (x5 : Int32) (x6 : Int32) (x7 : Int32) (t0 : Int32) (H : Heap) (locs : List Loc) (ls : Array Slot), fX7_copy_c167 M_lane M_many (fX7_copy_c143 M_lane M_many n143) M_thrown M_status M_item x1 x2 x3 x4 x5 x6 x7 t0 = some (rr, M_thrown_z, M_status_z, M_item_z) → va_P (dC, dI) vwCl [(aM, .inr (7, [.int M_thrown, .int M_status, .ref aM_lane, .ref aM_many, .ref aM_item, .int M_posts, .ref aM_beside, .int M_rounds, .ref aM_round, .int M_read, .ref aM_reads, .ref aM_tape, .int M_taped, .int M_latest, .int M_length, .int M_at, .int M_sort, .int M_from, .int M_till, .int M_fault, .int M_faultAt, .ref aM_fewest, .ref aM_may, .ref aM_then, .ref aM_cases, .ref aM_next, .ref aM_trace, .int M_traced])), (aM_lane, .inl (cI, 8, .inl M_lane)), (aM_many, .inl (cI, 8, .inl M_many)), (aM_item, .inl (cI, 320, .inl M_item))] H → va_D A [(aM, .inr (7, [.int M_thrown, .int M_status, .ref aM_lane, .ref aM_many, .ref aM_item, .int M_posts, .ref aM_beside, .int M_rounds, .ref aM_round, .int M_read, .ref aM_reads, .ref aM_tape, .int M_taped, .int M_latest, .int M_length, .int M_at, .int M_sort, .int M_from, .int M_till, .int M_fault, .int M_faultAt, .ref aM_fewest, .ref aM_may, .ref aM_then, .ref aM_cases, .ref aM_next, .ref aM_trace, .int M_traced])), (aM_lane, .inl (cI, 8, .inl M_lane)), (aM_many, .inl (cI, 8, .inl M_many)), (aM_item, .inl (cI, 320, .inl M_item))] → va_S A s.heap H locs → lv_has ls 9 [(0, .ref aM), (1, .int x1), (2, .int x2), (3, .int x3), (4, .int x4), (5, .int x5), (6, .int x6), (7, .int x7)] → W p l e rmX7_copy s m args below meth c H locs 0 0 Q (F0 m 167 ls [.int t0]) := by
        intro M_thrown M_status M_item x1 x2 x3 x4 x5 x6 x7 t0 H locs ls h hP hD hS hl
        unfold fX7_copy_c167 at h
        refine lv_istore (lv' := [(8, .int t0), (0, .ref aM), (1, .int x1), (2, .int x2), (3, .int x3), (4, .int x4), (5, .int x5), (6, .int x6), (7, .int x7)]) hx hb dX7_copy_167 hl (by decide) rfl (fun ls hl => ?_)
        refine lv_aload_n hx hb dX7_copy_169 rfl (lv_at hl 1 rfl) ?_
        refine ka_get (v := .ref aM_item) (C := RX7) (T := TX7) (Nf := 28) (ref := "BeepNetModel") hx hb hts hiX7 hown hK hP 0 rfl rfl 4 (by decide) k_0 rfl rfl dX7_copy_170 ?_
        refine lv_bipush (v := 40) hx hb dX7_copy_173 (by decide) ?_
        refine lv_iload_n hx hb dX7_copy_175 rfl (lv_at hl 4 rfl) ?_
        refine lv_imul hx hb dX7_copy_176 ?_
        refine lv_iload hx hb dX7_copy_177 (lv_at hl 5 rfl) ?_
        refine lv_iadd hx hb dX7_copy_179 ?_
        refine lv_iload hx hb dX7_copy_180 (lv_at hl 0 rfl) ?_
        refine lv_iadd hx hb dX7_copy_182 ?_
        refine lv_aload_n hx hb dX7_copy_183 rfl (lv_at hl 1 rfl) ?_
        refine ka_get (v := .ref aM_item) (C := RX7) (T := TX7) (Nf := 28) (ref := "BeepNetModel") hx hb hts hiX7 hown hK hP 0 rfl rfl 4 (by decide) k_0 rfl rfl dX7_copy_184 ?_
        refine lv_bipush (v := 40) hx hb dX7_copy_187 (by decide) ?_
        refine lv_iload_n hx hb dX7_copy_189 rfl (lv_at hl 2 rfl) ?_
        refine lv_imul hx hb dX7_copy_190 ?_
        refine lv_iload_n hx hb dX7_copy_191 rfl (lv_at hl 3 rfl) ?_
        refine lv_iadd hx hb dX7_copy_192 ?_
        refine lv_iload hx hb dX7_copy_193 (lv_at hl 0 rfl) ?_
        refine lv_iadd hx hb dX7_copy_195 ?_
        obtain ⟨v16801, ev16801, hn16802, h⟩ := ldx_s h
        refine ka_ild hx hb hK hP 3 0 ev16801 rfl rfl hn16802 dX7_copy_196 ?_
        obtain ⟨g16803, eg16803, hn16804, h⟩ := sti_s h
        refine ka_ist (w1 := [(aM, .inr (7, [.int M_thrown, .int M_status, .ref aM_lane, .ref aM_many, .ref aM_item, .int M_posts, .ref aM_beside, .int M_rounds, .ref aM_round, .int M_read, .ref aM_reads, .ref aM_tape, .int M_taped, .int M_latest, .int M_length, .int M_at, .int M_sort, .int M_from, .int M_till, .int M_fault, .int M_faultAt, .ref aM_fewest, .ref aM_may, .ref aM_then, .ref aM_cases, .ref aM_next, .ref aM_trace, .int M_traced])), (aM_lane, .inl (cI, 8, .inl M_lane)), (aM_many, .inl (cI, 8, .inl M_many)), (aM_item, .inl (cI, 320, .inl g16803))]) hx hb hK hP hD hS 3 0 eg16803 rfl rfl hn16804 dX7_copy_197 rfl (fun H locs hP hD hS => ?_)
        refine lv_iinc (v := x7 + 1) (lv' := [(7, .int (x7 + 1)), (8, .int t0), (0, .ref aM), (1, .int x1), (2, .int x2), (3, .int x3), (4, .int x4), (5, .int x5), (6, .int x6)]) hx hb dX7_copy_198 hl (k := 8) rfl rfl (by decide) rfl (fun ls hl => ?_)
        refine lv_goto (tgt := 143) hx hb dX7_copy_201 (by decide) ?_
        exact ih143 M_thrown M_status g16803 x1 x2 x3 x4 x5 x6 (x7 + 1) _ _ _ h hP hD hS (lv_sub hl [2, 3, 4, 5, 6, 7, 8, 0] rfl)
      intro M_thrown M_status M_item x1 x2 x3 x4 x5 x6 x7 H locs ls h hP hD hS hl
      rw [fX7_copy_c143] at h
      refine lv_iload hx hb dX7_copy_143 (lv_at hl 7 rfl) ?_
      refine lv_iload hx hb dX7_copy_145 (lv_at hl 5 rfl) ?_
      refine lv_icmp_ge (tgt := 204) hx hb dX7_copy_147 (by decide) (fun c14401 => ?_) (fun c14401 => ?_)
      · have h := ift c14401 h
        refine lv_iload hx hb dX7_copy_204 (lv_at hl 5 rfl) ?_
        obtain ⟨rfl, rfl, rfl, rfl⟩ := sj4 h
        exact hret _ _ _ _ _ rfl rfl hP hD hS dX7_copy_206
      · have h := ifn c14401 h
        refine lv_iload hx hb dX7_copy_150 (lv_at hl 6 rfl) ?_
        refine lv_if_eq (tgt := 160) hx hb dX7_copy_152 (by decide) (fun c14402 => ?_) (fun c14402 => ?_)
        · have h := ift c14402 h
          refine lv_iload hx hb dX7_copy_160 (lv_at hl 5 rfl) ?_
          refine lv_iconst (v := 1) hx hb dX7_copy_162 (by decide) ?_
          refine lv_isub hx hb dX7_copy_163 ?_
          refine lv_iload hx hb dX7_copy_164 (lv_at hl 7 rfl) ?_
          refine lv_isub hx hb dX7_copy_166 ?_
          exact hC167 M_thrown M_status M_item x1 x2 x3 x4 x5 x6 x7 ((x5 - (1 : Int32)) - x7) _ _ _ h hP hD hS (lv_sub hl [0, 1, 2, 3, 4, 5, 6, 7] rfl)
        · have h := ifn c14402 h
          refine lv_iload hx hb dX7_copy_155 (lv_at hl 7 rfl) ?_
          refine lv_goto (tgt := 167) hx hb dX7_copy_157 (by decide) ?_
          exact hC167 M_thrown M_status M_item x1 x2 x3 x4 x5 x6 x7 x7 _ _ _ h hP hD hS (lv_sub hl [0, 1, 2, 3, 4, 5, 6, 7] rfl)
  unfold fX7_copy at h
  refine lv_aload_n hx hb dX7_copy_0 rfl (lv_at hl 0 rfl) ?_
  refine lv_iconst (v := 0) hx hb dX7_copy_1 (by decide) ?_
  refine ka_put (w1 := [(aM, .inr (7, [.int 0, .int M_status, .ref aM_lane, .ref aM_many, .ref aM_item, .int M_posts, .ref aM_beside, .int M_rounds, .ref aM_round, .int M_read, .ref aM_reads, .ref aM_tape, .int M_taped, .int M_latest, .int M_length, .int M_at, .int M_sort, .int M_from, .int M_till, .int M_fault, .int M_faultAt, .ref aM_fewest, .ref aM_may, .ref aM_then, .ref aM_cases, .ref aM_next, .ref aM_trace, .int M_traced])), (aM_lane, .inl (cI, 8, .inl M_lane)), (aM_many, .inl (cI, 8, .inl M_many)), (aM_item, .inl (cI, 320, .inl M_item))]) (C := RX7) (T := TX7) (Nf := 28) (ref := "BeepNetModel") hx hb hts hiX7 tyX7 tyX7_ok nmX7 hown hK hP hD hS 0 rfl rfl 0 (by decide) k_1 rfl rfl rfl (Nat.le_of_ble_eq_true rfl) dX7_copy_2 rfl (fun H locs hP hD hS => ?_)
  refine lv_iload_n hx hb dX7_copy_5 rfl (lv_at hl 1 rfl) ?_
  obtain ⟨r1, e2, h⟩ := bd1_s h
  refine kc_si (rest := []) (wr := [(aM, .inr (7, [.int 0, .int M_status, .ref aM_lane, .ref aM_many, .ref aM_item, .int M_posts, .ref aM_beside, .int M_rounds, .ref aM_round, .int M_read, .ref aM_reads, .ref aM_tape, .int M_taped, .int M_latest, .int M_length, .int M_at, .int M_sort, .int M_from, .int M_till, .int M_fault, .int M_faultAt, .ref aM_fewest, .ref aM_may, .ref aM_then, .ref aM_cases, .ref aM_next, .ref aM_trace, .int M_traced])), (aM_lane, .inl (cI, 8, .inl M_lane)), (aM_many, .inl (cI, 8, .inl M_many)), (aM_item, .inl (cI, 320, .inl M_item))]) (wF := [(aM, .inr (7, [.int 0, .int M_status, .ref aM_lane, .ref aM_many, .ref aM_item, .int M_posts, .ref aM_beside, .int M_rounds, .ref aM_round, .int M_read, .ref aM_reads, .ref aM_tape, .int M_taped, .int M_latest, .int M_length, .int M_at, .int M_sort, .int M_from, .int M_till, .int M_fault, .int M_faultAt, .ref aM_fewest, .ref aM_may, .ref aM_then, .ref aM_cases, .ref aM_next, .ref aM_trace, .int M_traced])), (aM_lane, .inl (cI, 8, .inl M_lane)), (aM_many, .inl (cI, 8, .inl M_many)), (aM_item, .inl (cI, 320, .inl M_item))]) ⟨hx, hb, hml, hown, hts⟩ (c_X7_isSheet l dC dI cI cJ cZ cA p0 r1 e2) (va_cwS 1 hts gX7_copy_X7_isSheet rfl rfl rfl (by decide +kernel) ⟨Nat.le_of_ble_eq_true rfl, Nat.le_of_ble_eq_true rfl⟩) hK hP hD hS hA [] [0, 1, 2, 3] [0, 1, 2, 3] rfl rfl rfl rfl (by decide) rfl rfl rfl hl.1 rfl (Nat.le_of_ble_eq_true rfl) dX7_copy_6 ⟨Nat.zero_le _, Nat.zero_le _⟩ (fun H locs hP hD hS => ?_)
  refine lv_if_eq (tgt := 19) hx hb dX7_copy_9 (by decide) (fun c3 => ?_) (fun c3 => ?_)
  · have h := ift c3 h
    refine lv_ldc hx hb hown k_2 dX7_copy_19 ?_
    obtain ⟨rfl, rfl, rfl, rfl⟩ := sj4 h
    exact hret _ _ _ _ _ rfl rfl hP hD hS dX7_copy_21
  · have h := ifn c3 h
    refine lv_iload_n hx hb dX7_copy_12 rfl (lv_at hl 3 rfl) ?_
    obtain ⟨r4, e5, h⟩ := bd1_s h
    refine kc_si (rest := []) (wr := [(aM, .inr (7, [.int 0, .int M_status, .ref aM_lane, .ref aM_many, .ref aM_item, .int M_posts, .ref aM_beside, .int M_rounds, .ref aM_round, .int M_read, .ref aM_reads, .ref aM_tape, .int M_taped, .int M_latest, .int M_length, .int M_at, .int M_sort, .int M_from, .int M_till, .int M_fault, .int M_faultAt, .ref aM_fewest, .ref aM_may, .ref aM_then, .ref aM_cases, .ref aM_next, .ref aM_trace, .int M_traced])), (aM_lane, .inl (cI, 8, .inl M_lane)), (aM_many, .inl (cI, 8, .inl M_many)), (aM_item, .inl (cI, 320, .inl M_item))]) (wF := [(aM, .inr (7, [.int 0, .int M_status, .ref aM_lane, .ref aM_many, .ref aM_item, .int M_posts, .ref aM_beside, .int M_rounds, .ref aM_round, .int M_read, .ref aM_reads, .ref aM_tape, .int M_taped, .int M_latest, .int M_length, .int M_at, .int M_sort, .int M_from, .int M_till, .int M_fault, .int M_faultAt, .ref aM_fewest, .ref aM_may, .ref aM_then, .ref aM_cases, .ref aM_next, .ref aM_trace, .int M_traced])), (aM_lane, .inl (cI, 8, .inl M_lane)), (aM_many, .inl (cI, 8, .inl M_many)), (aM_item, .inl (cI, 320, .inl M_item))]) ⟨hx, hb, hml, hown, hts⟩ (c_X7_isSheet l dC dI cI cJ cZ cA p2 r4 e5) (va_cwS 1 hts gX7_copy_X7_isSheet rfl rfl rfl (by decide +kernel) ⟨Nat.le_of_ble_eq_true rfl, Nat.le_of_ble_eq_true rfl⟩) hK hP hD hS hA [] [0, 1, 2, 3] [0, 1, 2, 3] rfl rfl rfl rfl (by decide) rfl rfl rfl hl.1 rfl (Nat.le_of_ble_eq_true rfl) dX7_copy_13 ⟨Nat.zero_le _, Nat.zero_le _⟩ (fun H locs hP hD hS => ?_)
    refine lv_if_ne (tgt := 22) hx hb dX7_copy_16 (by decide) (fun c6 => ?_) (fun c6 => ?_)
    · have h := ifn c6 h
      refine lv_aload_n hx hb dX7_copy_22 rfl (lv_at hl 0 rfl) ?_
      refine lv_iconst (v := 0) hx hb dX7_copy_23 (by decide) ?_
      refine ka_put (w1 := [(aM, .inr (7, [.int 0, .int 0, .ref aM_lane, .ref aM_many, .ref aM_item, .int M_posts, .ref aM_beside, .int M_rounds, .ref aM_round, .int M_read, .ref aM_reads, .ref aM_tape, .int M_taped, .int M_latest, .int M_length, .int M_at, .int M_sort, .int M_from, .int M_till, .int M_fault, .int M_faultAt, .ref aM_fewest, .ref aM_may, .ref aM_then, .ref aM_cases, .ref aM_next, .ref aM_trace, .int M_traced])), (aM_lane, .inl (cI, 8, .inl M_lane)), (aM_many, .inl (cI, 8, .inl M_many)), (aM_item, .inl (cI, 320, .inl M_item))]) (C := RX7) (T := TX7) (Nf := 28) (ref := "BeepNetModel") hx hb hts hiX7 tyX7 tyX7_ok nmX7 hown hK hP hD hS 0 rfl rfl 1 (by decide) k_3 rfl rfl rfl (Nat.le_of_ble_eq_true rfl) dX7_copy_24 rfl (fun H locs hP hD hS => ?_)
      refine lv_aload_n hx hb dX7_copy_27 rfl (lv_at hl 0 rfl) ?_
      refine ka_get (v := .ref aM_lane) (C := RX7) (T := TX7) (Nf := 28) (ref := "BeepNetModel") hx hb hts hiX7 hown hK hP 0 rfl rfl 2 (by decide) k_4 rfl rfl dX7_copy_28 ?_
      refine lv_iload_n hx hb dX7_copy_31 rfl (lv_at hl 1 rfl) ?_
      obtain ⟨v7, ev7, hn8, h⟩ := ldx_s h
      refine ka_ild hx hb hK hP 1 0 ev7 rfl rfl hn8 dX7_copy_32 ?_
      refine lv_if_lt (tgt := 45) hx hb dX7_copy_33 (by decide) (fun c9 => ?_) (fun c9 => ?_)
      · have h := ift c9 h
        refine lv_aload_n hx hb dX7_copy_45 rfl (lv_at hl 0 rfl) ?_
        refine lv_iconst (v := 1) hx hb dX7_copy_46 (by decide) ?_
        obtain ⟨r10, M_status_11, e12, h⟩ := bd2_s h
        refine kc_vi (rest := []) (wr := [(aM_lane, .inl (cI, 8, .inl M_lane)), (aM_many, .inl (cI, 8, .inl M_many)), (aM_item, .inl (cI, 320, .inl M_item))]) (wF := [(aM, .inr (7, [.int 0, .int M_status_11, .ref aM_lane, .ref aM_many, .ref aM_item, .int M_posts, .ref aM_beside, .int M_rounds, .ref aM_round, .int M_read, .ref aM_reads, .ref aM_tape, .int M_taped, .int M_latest, .int M_length, .int M_at, .int M_sort, .int M_from, .int M_till, .int M_fault, .int M_faultAt, .ref aM_fewest, .ref aM_may, .ref aM_then, .ref aM_cases, .ref aM_next, .ref aM_trace, .int M_traced])), (aM_lane, .inl (cI, 8, .inl M_lane)), (aM_many, .inl (cI, 8, .inl M_many)), (aM_item, .inl (cI, 320, .inl M_item))]) ⟨hx, hb, hml, hown, hts⟩ (c_X7_found l dC dI cI cJ cZ cA aM aM_lane aM_many aM_item aM_beside aM_round aM_reads aM_tape aM_fewest aM_may aM_then aM_cases aM_next aM_trace 0 0 M_posts M_rounds M_read M_taped M_latest M_length M_at M_sort M_from M_till M_fault M_faultAt M_traced 1 r10 M_status_11 e12) (cwV 1 hts gX7_copy_X7_found rfl rfl rfl (by decide +kernel) ⟨Nat.le_of_ble_eq_true rfl, Nat.le_of_ble_eq_true rfl⟩) hK hP hD hS hA [0] [1, 2, 3] [3, 0, 1, 2] 0 rfl rfl rfl rfl (by decide) rfl rfl rfl rfl rfl rfl hl.1 rfl (Nat.le_of_ble_eq_true rfl) dX7_copy_47 ⟨Nat.zero_le _, Nat.zero_le _⟩ (fun H locs hP hD hS => ?_)
        obtain ⟨rfl, rfl, rfl, rfl⟩ := sj4 h
        exact hret _ _ _ _ _ rfl rfl hP hD hS dX7_copy_50
      · have h := ifn c9 h
        refine lv_aload_n hx hb dX7_copy_36 rfl (lv_at hl 0 rfl) ?_
        refine ka_get (v := .ref aM_lane) (C := RX7) (T := TX7) (Nf := 28) (ref := "BeepNetModel") hx hb hts hiX7 hown hK hP 0 rfl rfl 2 (by decide) k_4 rfl rfl dX7_copy_37 ?_
        refine lv_iload_n hx hb dX7_copy_40 rfl (lv_at hl 3 rfl) ?_
        obtain ⟨v13, ev13, hn14, h⟩ := ldx_s h
        refine ka_ild hx hb hK hP 1 0 ev13 rfl rfl hn14 dX7_copy_41 ?_
        refine lv_if_ge (tgt := 51) hx hb dX7_copy_42 (by decide) (fun c15 => ?_) (fun c15 => ?_)
        · have h := ift c15 h
          refine lv_aload_n hx hb dX7_copy_51 rfl (lv_at hl 0 rfl) ?_
          refine ka_get (v := .ref aM_lane) (C := RX7) (T := TX7) (Nf := 28) (ref := "BeepNetModel") hx hb hts hiX7 hown hK hP 0 rfl rfl 2 (by decide) k_4 rfl rfl dX7_copy_52 ?_
          refine lv_iload_n hx hb dX7_copy_55 rfl (lv_at hl 1 rfl) ?_
          obtain ⟨v16, ev16, hn17, h⟩ := ldx_s h
          refine ka_ild hx hb hK hP 1 0 ev16 rfl rfl hn17 dX7_copy_56 ?_
          refine lv_aload_n hx hb dX7_copy_57 rfl (lv_at hl 0 rfl) ?_
          refine ka_get (v := .ref aM_lane) (C := RX7) (T := TX7) (Nf := 28) (ref := "BeepNetModel") hx hb hts hiX7 hown hK hP 0 rfl rfl 2 (by decide) k_4 rfl rfl dX7_copy_58 ?_
          refine lv_iload_n hx hb dX7_copy_61 rfl (lv_at hl 3 rfl) ?_
          obtain ⟨v18, ev18, hn19, h⟩ := ldx_s h
          refine ka_ild hx hb hK hP 1 0 ev18 rfl rfl hn19 dX7_copy_62 ?_
          refine lv_icmp_eq (tgt := 72) hx hb dX7_copy_63 (by decide) (fun c20 => ?_) (fun c20 => ?_)
          · have h := ift c20 h
            refine lv_iload_n hx hb dX7_copy_72 rfl (lv_at hl 2 rfl) ?_
            refine lv_if_lt (tgt := 121) hx hb dX7_copy_73 (by decide) (fun c21 => ?_) (fun c21 => ?_)
            · have h := ift c21 h
              refine lv_aload_n hx hb dX7_copy_121 rfl (lv_at hl 0 rfl) ?_
              refine lv_iconst (v := 2) hx hb dX7_copy_122 (by decide) ?_
              obtain ⟨r22, M_status_23, e24, h⟩ := bd2_s h
              refine kc_vi (rest := []) (wr := [(aM_lane, .inl (cI, 8, .inl M_lane)), (aM_many, .inl (cI, 8, .inl M_many)), (aM_item, .inl (cI, 320, .inl M_item))]) (wF := [(aM, .inr (7, [.int 0, .int M_status_23, .ref aM_lane, .ref aM_many, .ref aM_item, .int M_posts, .ref aM_beside, .int M_rounds, .ref aM_round, .int M_read, .ref aM_reads, .ref aM_tape, .int M_taped, .int M_latest, .int M_length, .int M_at, .int M_sort, .int M_from, .int M_till, .int M_fault, .int M_faultAt, .ref aM_fewest, .ref aM_may, .ref aM_then, .ref aM_cases, .ref aM_next, .ref aM_trace, .int M_traced])), (aM_lane, .inl (cI, 8, .inl M_lane)), (aM_many, .inl (cI, 8, .inl M_many)), (aM_item, .inl (cI, 320, .inl M_item))]) ⟨hx, hb, hml, hown, hts⟩ (c_X7_found l dC dI cI cJ cZ cA aM aM_lane aM_many aM_item aM_beside aM_round aM_reads aM_tape aM_fewest aM_may aM_then aM_cases aM_next aM_trace 0 0 M_posts M_rounds M_read M_taped M_latest M_length M_at M_sort M_from M_till M_fault M_faultAt M_traced 2 r22 M_status_23 e24) (cwV 1 hts gX7_copy_X7_found rfl rfl rfl (by decide +kernel) ⟨Nat.le_of_ble_eq_true rfl, Nat.le_of_ble_eq_true rfl⟩) hK hP hD hS hA [0] [1, 2, 3] [3, 0, 1, 2] 0 rfl rfl rfl rfl (by decide) rfl rfl rfl rfl rfl rfl hl.1 rfl (Nat.le_of_ble_eq_true rfl) dX7_copy_123 ⟨Nat.zero_le _, Nat.zero_le _⟩ (fun H locs hP hD hS => ?_)
              obtain ⟨rfl, rfl, rfl, rfl⟩ := sj4 h
              exact hret _ _ _ _ _ rfl rfl hP hD hS dX7_copy_126
            · have h := ifn c21 h
              refine lv_iload hx hb dX7_copy_76 (lv_at hl 4 rfl) ?_
              refine lv_if_lt (tgt := 121) hx hb dX7_copy_78 (by decide) (fun c25 => ?_) (fun c25 => ?_)
              · have h := ift c25 h
                refine lv_aload_n hx hb dX7_copy_121 rfl (lv_at hl 0 rfl) ?_
                refine lv_iconst (v := 2) hx hb dX7_copy_122 (by decide) ?_
                obtain ⟨r26, M_status_27, e28, h⟩ := bd2_s h
                refine kc_vi (rest := []) (wr := [(aM_lane, .inl (cI, 8, .inl M_lane)), (aM_many, .inl (cI, 8, .inl M_many)), (aM_item, .inl (cI, 320, .inl M_item))]) (wF := [(aM, .inr (7, [.int 0, .int M_status_27, .ref aM_lane, .ref aM_many, .ref aM_item, .int M_posts, .ref aM_beside, .int M_rounds, .ref aM_round, .int M_read, .ref aM_reads, .ref aM_tape, .int M_taped, .int M_latest, .int M_length, .int M_at, .int M_sort, .int M_from, .int M_till, .int M_fault, .int M_faultAt, .ref aM_fewest, .ref aM_may, .ref aM_then, .ref aM_cases, .ref aM_next, .ref aM_trace, .int M_traced])), (aM_lane, .inl (cI, 8, .inl M_lane)), (aM_many, .inl (cI, 8, .inl M_many)), (aM_item, .inl (cI, 320, .inl M_item))]) ⟨hx, hb, hml, hown, hts⟩ (c_X7_found l dC dI cI cJ cZ cA aM aM_lane aM_many aM_item aM_beside aM_round aM_reads aM_tape aM_fewest aM_may aM_then aM_cases aM_next aM_trace 0 0 M_posts M_rounds M_read M_taped M_latest M_length M_at M_sort M_from M_till M_fault M_faultAt M_traced 2 r26 M_status_27 e28) (cwV 1 hts gX7_copy_X7_found rfl rfl rfl (by decide +kernel) ⟨Nat.le_of_ble_eq_true rfl, Nat.le_of_ble_eq_true rfl⟩) hK hP hD hS hA [0] [1, 2, 3] [3, 0, 1, 2] 0 rfl rfl rfl rfl (by decide) rfl rfl rfl rfl rfl rfl hl.1 rfl (Nat.le_of_ble_eq_true rfl) dX7_copy_123 ⟨Nat.zero_le _, Nat.zero_le _⟩ (fun H locs hP hD hS => ?_)
                obtain ⟨rfl, rfl, rfl, rfl⟩ := sj4 h
                exact hret _ _ _ _ _ rfl rfl hP hD hS dX7_copy_126
              · have h := ifn c25 h
                refine lv_iload hx hb dX7_copy_81 (lv_at hl 5 rfl) ?_
                refine lv_if_lt (tgt := 121) hx hb dX7_copy_83 (by decide) (fun c29 => ?_) (fun c29 => ?_)
                · have h := ift c29 h
                  refine lv_aload_n hx hb dX7_copy_121 rfl (lv_at hl 0 rfl) ?_
                  refine lv_iconst (v := 2) hx hb dX7_copy_122 (by decide) ?_
                  obtain ⟨r30, M_status_31, e32, h⟩ := bd2_s h
                  refine kc_vi (rest := []) (wr := [(aM_lane, .inl (cI, 8, .inl M_lane)), (aM_many, .inl (cI, 8, .inl M_many)), (aM_item, .inl (cI, 320, .inl M_item))]) (wF := [(aM, .inr (7, [.int 0, .int M_status_31, .ref aM_lane, .ref aM_many, .ref aM_item, .int M_posts, .ref aM_beside, .int M_rounds, .ref aM_round, .int M_read, .ref aM_reads, .ref aM_tape, .int M_taped, .int M_latest, .int M_length, .int M_at, .int M_sort, .int M_from, .int M_till, .int M_fault, .int M_faultAt, .ref aM_fewest, .ref aM_may, .ref aM_then, .ref aM_cases, .ref aM_next, .ref aM_trace, .int M_traced])), (aM_lane, .inl (cI, 8, .inl M_lane)), (aM_many, .inl (cI, 8, .inl M_many)), (aM_item, .inl (cI, 320, .inl M_item))]) ⟨hx, hb, hml, hown, hts⟩ (c_X7_found l dC dI cI cJ cZ cA aM aM_lane aM_many aM_item aM_beside aM_round aM_reads aM_tape aM_fewest aM_may aM_then aM_cases aM_next aM_trace 0 0 M_posts M_rounds M_read M_taped M_latest M_length M_at M_sort M_from M_till M_fault M_faultAt M_traced 2 r30 M_status_31 e32) (cwV 1 hts gX7_copy_X7_found rfl rfl rfl (by decide +kernel) ⟨Nat.le_of_ble_eq_true rfl, Nat.le_of_ble_eq_true rfl⟩) hK hP hD hS hA [0] [1, 2, 3] [3, 0, 1, 2] 0 rfl rfl rfl rfl (by decide) rfl rfl rfl rfl rfl rfl hl.1 rfl (Nat.le_of_ble_eq_true rfl) dX7_copy_123 ⟨Nat.zero_le _, Nat.zero_le _⟩ (fun H locs hP hD hS => ?_)
                  obtain ⟨rfl, rfl, rfl, rfl⟩ := sj4 h
                  exact hret _ _ _ _ _ rfl rfl hP hD hS dX7_copy_126
                · have h := ifn c29 h
                  refine lv_iload_n hx hb dX7_copy_86 rfl (lv_at hl 2 rfl) ?_
                  refine lv_i2l hx hb dX7_copy_87 rfl ?_
                  refine lv_iload hx hb dX7_copy_88 (lv_at hl 5 rfl) ?_
                  refine lv_i2l hx hb dX7_copy_90 rfl ?_
                  refine lv_ladd hx hb dX7_copy_91 ?_
                  refine lv_aload_n hx hb dX7_copy_92 rfl (lv_at hl 0 rfl) ?_
                  refine ka_get (v := .ref aM_many) (C := RX7) (T := TX7) (Nf := 28) (ref := "BeepNetModel") hx hb hts hiX7 hown hK hP 0 rfl rfl 3 (by decide) k_5 rfl rfl dX7_copy_93 ?_
                  refine lv_iload_n hx hb dX7_copy_96 rfl (lv_at hl 1 rfl) ?_
                  obtain ⟨v33, ev33, hn34, h⟩ := ldx_s h
                  refine ka_ild hx hb hK hP 2 0 ev33 rfl rfl hn34 dX7_copy_97 ?_
                  refine lv_i2l hx hb dX7_copy_98 rfl ?_
                  refine W.lcmp hx hb dX7_copy_99 ?_
                  refine lv_if_gt (tgt := 121) hx hb dX7_copy_100 (by decide) (fun c35 => ?_) (fun c35 => ?_)
                  · have h := ift c35 h
                    refine lv_aload_n hx hb dX7_copy_121 rfl (lv_at hl 0 rfl) ?_
                    refine lv_iconst (v := 2) hx hb dX7_copy_122 (by decide) ?_
                    obtain ⟨r36, M_status_37, e38, h⟩ := bd2_s h
                    refine kc_vi (rest := []) (wr := [(aM_lane, .inl (cI, 8, .inl M_lane)), (aM_many, .inl (cI, 8, .inl M_many)), (aM_item, .inl (cI, 320, .inl M_item))]) (wF := [(aM, .inr (7, [.int 0, .int M_status_37, .ref aM_lane, .ref aM_many, .ref aM_item, .int M_posts, .ref aM_beside, .int M_rounds, .ref aM_round, .int M_read, .ref aM_reads, .ref aM_tape, .int M_taped, .int M_latest, .int M_length, .int M_at, .int M_sort, .int M_from, .int M_till, .int M_fault, .int M_faultAt, .ref aM_fewest, .ref aM_may, .ref aM_then, .ref aM_cases, .ref aM_next, .ref aM_trace, .int M_traced])), (aM_lane, .inl (cI, 8, .inl M_lane)), (aM_many, .inl (cI, 8, .inl M_many)), (aM_item, .inl (cI, 320, .inl M_item))]) ⟨hx, hb, hml, hown, hts⟩ (c_X7_found l dC dI cI cJ cZ cA aM aM_lane aM_many aM_item aM_beside aM_round aM_reads aM_tape aM_fewest aM_may aM_then aM_cases aM_next aM_trace 0 0 M_posts M_rounds M_read M_taped M_latest M_length M_at M_sort M_from M_till M_fault M_faultAt M_traced 2 r36 M_status_37 e38) (cwV 1 hts gX7_copy_X7_found rfl rfl rfl (by decide +kernel) ⟨Nat.le_of_ble_eq_true rfl, Nat.le_of_ble_eq_true rfl⟩) hK hP hD hS hA [0] [1, 2, 3] [3, 0, 1, 2] 0 rfl rfl rfl rfl (by decide) rfl rfl rfl rfl rfl rfl hl.1 rfl (Nat.le_of_ble_eq_true rfl) dX7_copy_123 ⟨Nat.zero_le _, Nat.zero_le _⟩ (fun H locs hP hD hS => ?_)
                    obtain ⟨rfl, rfl, rfl, rfl⟩ := sj4 h
                    exact hret _ _ _ _ _ rfl rfl hP hD hS dX7_copy_126
                  · have h := ifn c35 h
                    refine lv_iload hx hb dX7_copy_103 (lv_at hl 4 rfl) ?_
                    refine lv_i2l hx hb dX7_copy_105 rfl ?_
                    refine lv_iload hx hb dX7_copy_106 (lv_at hl 5 rfl) ?_
                    refine lv_i2l hx hb dX7_copy_108 rfl ?_
                    refine lv_ladd hx hb dX7_copy_109 ?_
                    refine lv_aload_n hx hb dX7_copy_110 rfl (lv_at hl 0 rfl) ?_
                    refine ka_get (v := .ref aM_many) (C := RX7) (T := TX7) (Nf := 28) (ref := "BeepNetModel") hx hb hts hiX7 hown hK hP 0 rfl rfl 3 (by decide) k_5 rfl rfl dX7_copy_111 ?_
                    refine lv_iload_n hx hb dX7_copy_114 rfl (lv_at hl 3 rfl) ?_
                    obtain ⟨v39, ev39, hn40, h⟩ := ldx_s h
                    refine ka_ild hx hb hK hP 2 0 ev39 rfl rfl hn40 dX7_copy_115 ?_
                    refine lv_i2l hx hb dX7_copy_116 rfl ?_
                    refine W.lcmp hx hb dX7_copy_117 ?_
                    refine lv_if_le (tgt := 127) hx hb dX7_copy_118 (by decide) (fun c41 => ?_) (fun c41 => ?_)
                    · have h := ift c41 h
                      refine lv_iload_n hx hb dX7_copy_127 rfl (lv_at hl 2 rfl) ?_
                      refine lv_iload hx hb dX7_copy_128 (lv_at hl 4 rfl) ?_
                      refine lv_icmp_lt (tgt := 137) hx hb dX7_copy_130 (by decide) (fun c42 => ?_) (fun c42 => ?_)
                      · have h := ift c42 h
                        refine lv_iconst (v := 0) hx hb dX7_copy_137 (by decide) ?_
                        refine lv_istore (lv' := [(6, .int 0), (0, .ref aM), (1, .int p0), (2, .int p1), (3, .int p2), (4, .int p3), (5, .int p4)]) hx hb dX7_copy_138 hl (by decide) rfl (fun ls hl => ?_)
                        refine lv_iconst (v := 0) hx hb dX7_copy_140 (by decide) ?_
                        refine lv_istore (lv' := [(7, .int 0), (6, .int 0), (0, .ref aM), (1, .int p0), (2, .int p1), (3, .int p2), (4, .int p3), (5, .int p4)]) hx hb dX7_copy_141 hl (by decide) rfl (fun ls hl => ?_)
                        exact hC143 FU 0 0 M_item p0 p1 p2 p3 p4 0 0 _ _ _ h hP hD hS (lv_sub hl [2, 3, 4, 5, 6, 7, 1, 0] rfl)
                      · have h := ifn c42 h
                        refine lv_iconst (v := 1) hx hb dX7_copy_133 (by decide) ?_
                        refine lv_goto (tgt := 138) hx hb dX7_copy_134 (by decide) ?_
                        refine lv_istore (lv' := [(6, .int 1), (0, .ref aM), (1, .int p0), (2, .int p1), (3, .int p2), (4, .int p3), (5, .int p4)]) hx hb dX7_copy_138 hl (by decide) rfl (fun ls hl => ?_)
                        refine lv_iconst (v := 0) hx hb dX7_copy_140 (by decide) ?_
                        refine lv_istore (lv' := [(7, .int 0), (6, .int 1), (0, .ref aM), (1, .int p0), (2, .int p1), (3, .int p2), (4, .int p3), (5, .int p4)]) hx hb dX7_copy_141 hl (by decide) rfl (fun ls hl => ?_)
                        exact hC143 FU 0 0 M_item p0 p1 p2 p3 p4 1 0 _ _ _ h hP hD hS (lv_sub hl [2, 3, 4, 5, 6, 7, 1, 0] rfl)
                    · have h := ifn c41 h
                      refine lv_aload_n hx hb dX7_copy_121 rfl (lv_at hl 0 rfl) ?_
                      refine lv_iconst (v := 2) hx hb dX7_copy_122 (by decide) ?_
                      obtain ⟨r43, M_status_44, e45, h⟩ := bd2_s h
                      refine kc_vi (rest := []) (wr := [(aM_lane, .inl (cI, 8, .inl M_lane)), (aM_many, .inl (cI, 8, .inl M_many)), (aM_item, .inl (cI, 320, .inl M_item))]) (wF := [(aM, .inr (7, [.int 0, .int M_status_44, .ref aM_lane, .ref aM_many, .ref aM_item, .int M_posts, .ref aM_beside, .int M_rounds, .ref aM_round, .int M_read, .ref aM_reads, .ref aM_tape, .int M_taped, .int M_latest, .int M_length, .int M_at, .int M_sort, .int M_from, .int M_till, .int M_fault, .int M_faultAt, .ref aM_fewest, .ref aM_may, .ref aM_then, .ref aM_cases, .ref aM_next, .ref aM_trace, .int M_traced])), (aM_lane, .inl (cI, 8, .inl M_lane)), (aM_many, .inl (cI, 8, .inl M_many)), (aM_item, .inl (cI, 320, .inl M_item))]) ⟨hx, hb, hml, hown, hts⟩ (c_X7_found l dC dI cI cJ cZ cA aM aM_lane aM_many aM_item aM_beside aM_round aM_reads aM_tape aM_fewest aM_may aM_then aM_cases aM_next aM_trace 0 0 M_posts M_rounds M_read M_taped M_latest M_length M_at M_sort M_from M_till M_fault M_faultAt M_traced 2 r43 M_status_44 e45) (cwV 1 hts gX7_copy_X7_found rfl rfl rfl (by decide +kernel) ⟨Nat.le_of_ble_eq_true rfl, Nat.le_of_ble_eq_true rfl⟩) hK hP hD hS hA [0] [1, 2, 3] [3, 0, 1, 2] 0 rfl rfl rfl rfl (by decide) rfl rfl rfl rfl rfl rfl hl.1 rfl (Nat.le_of_ble_eq_true rfl) dX7_copy_123 ⟨Nat.zero_le _, Nat.zero_le _⟩ (fun H locs hP hD hS => ?_)
                      obtain ⟨rfl, rfl, rfl, rfl⟩ := sj4 h
                      exact hret _ _ _ _ _ rfl rfl hP hD hS dX7_copy_126
          · have h := ifn c20 h
            refine lv_aload_n hx hb dX7_copy_66 rfl (lv_at hl 0 rfl) ?_
            refine lv_iconst (v := 5) hx hb dX7_copy_67 (by decide) ?_
            obtain ⟨r46, M_status_47, e48, h⟩ := bd2_s h
            refine kc_vi (rest := []) (wr := [(aM_lane, .inl (cI, 8, .inl M_lane)), (aM_many, .inl (cI, 8, .inl M_many)), (aM_item, .inl (cI, 320, .inl M_item))]) (wF := [(aM, .inr (7, [.int 0, .int M_status_47, .ref aM_lane, .ref aM_many, .ref aM_item, .int M_posts, .ref aM_beside, .int M_rounds, .ref aM_round, .int M_read, .ref aM_reads, .ref aM_tape, .int M_taped, .int M_latest, .int M_length, .int M_at, .int M_sort, .int M_from, .int M_till, .int M_fault, .int M_faultAt, .ref aM_fewest, .ref aM_may, .ref aM_then, .ref aM_cases, .ref aM_next, .ref aM_trace, .int M_traced])), (aM_lane, .inl (cI, 8, .inl M_lane)), (aM_many, .inl (cI, 8, .inl M_many)), (aM_item, .inl (cI, 320, .inl M_item))]) ⟨hx, hb, hml, hown, hts⟩ (c_X7_found l dC dI cI cJ cZ cA aM aM_lane aM_many aM_item aM_beside aM_round aM_reads aM_tape aM_fewest aM_may aM_then aM_cases aM_next aM_trace 0 0 M_posts M_rounds M_read M_taped M_latest M_length M_at M_sort M_from M_till M_fault M_faultAt M_traced 5 r46 M_status_47 e48) (cwV 1 hts gX7_copy_X7_found rfl rfl rfl (by decide +kernel) ⟨Nat.le_of_ble_eq_true rfl, Nat.le_of_ble_eq_true rfl⟩) hK hP hD hS hA [0] [1, 2, 3] [3, 0, 1, 2] 0 rfl rfl rfl rfl (by decide) rfl rfl rfl rfl rfl rfl hl.1 rfl (Nat.le_of_ble_eq_true rfl) dX7_copy_68 ⟨Nat.zero_le _, Nat.zero_le _⟩ (fun H locs hP hD hS => ?_)
            obtain ⟨rfl, rfl, rfl, rfl⟩ := sj4 h
            exact hret _ _ _ _ _ rfl rfl hP hD hS dX7_copy_71
        · have h := ifn c15 h
          refine lv_aload_n hx hb dX7_copy_45 rfl (lv_at hl 0 rfl) ?_
          refine lv_iconst (v := 1) hx hb dX7_copy_46 (by decide) ?_
          obtain ⟨r49, M_status_50, e51, h⟩ := bd2_s h
          refine kc_vi (rest := []) (wr := [(aM_lane, .inl (cI, 8, .inl M_lane)), (aM_many, .inl (cI, 8, .inl M_many)), (aM_item, .inl (cI, 320, .inl M_item))]) (wF := [(aM, .inr (7, [.int 0, .int M_status_50, .ref aM_lane, .ref aM_many, .ref aM_item, .int M_posts, .ref aM_beside, .int M_rounds, .ref aM_round, .int M_read, .ref aM_reads, .ref aM_tape, .int M_taped, .int M_latest, .int M_length, .int M_at, .int M_sort, .int M_from, .int M_till, .int M_fault, .int M_faultAt, .ref aM_fewest, .ref aM_may, .ref aM_then, .ref aM_cases, .ref aM_next, .ref aM_trace, .int M_traced])), (aM_lane, .inl (cI, 8, .inl M_lane)), (aM_many, .inl (cI, 8, .inl M_many)), (aM_item, .inl (cI, 320, .inl M_item))]) ⟨hx, hb, hml, hown, hts⟩ (c_X7_found l dC dI cI cJ cZ cA aM aM_lane aM_many aM_item aM_beside aM_round aM_reads aM_tape aM_fewest aM_may aM_then aM_cases aM_next aM_trace 0 0 M_posts M_rounds M_read M_taped M_latest M_length M_at M_sort M_from M_till M_fault M_faultAt M_traced 1 r49 M_status_50 e51) (cwV 1 hts gX7_copy_X7_found rfl rfl rfl (by decide +kernel) ⟨Nat.le_of_ble_eq_true rfl, Nat.le_of_ble_eq_true rfl⟩) hK hP hD hS hA [0] [1, 2, 3] [3, 0, 1, 2] 0 rfl rfl rfl rfl (by decide) rfl rfl rfl rfl rfl rfl hl.1 rfl (Nat.le_of_ble_eq_true rfl) dX7_copy_47 ⟨Nat.zero_le _, Nat.zero_le _⟩ (fun H locs hP hD hS => ?_)
          obtain ⟨rfl, rfl, rfl, rfl⟩ := sj4 h
          exact hret _ _ _ _ _ rfl rfl hP hD hS dX7_copy_50
    · have h := ift c6 h
      refine lv_ldc hx hb hown k_2 dX7_copy_19 ?_
      obtain ⟨rfl, rfl, rfl, rfl⟩ := sj4 h
      exact hret _ _ _ _ _ rfl rfl hP hD hS dX7_copy_21
