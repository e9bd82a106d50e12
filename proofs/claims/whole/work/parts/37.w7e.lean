set_option maxHeartbeats 4000000 in
set_option maxRecDepth 100000 in
theorem c_X7_schedule (l : Launch) (dC : Nat → ClassId) (dI : Nat → Nat → Nat) (cI cJ cZ cA : ClassId) (aM aM_lane aM_many aM_item aM_beside aM_round aM_reads aM_tape aM_fewest aM_may aM_then aM_cases aM_next aM_trace : Nat) (M_thrown : Int32) (M_status : Int32) (M_posts : Int32) (M_rounds : Int32) (M_read : Int32) (M_taped : Int32) (M_latest : Int32) (M_length : Int32) (M_at : Int32) (M_sort : Int32) (M_from : Int32) (M_till : Int32) (M_fault : Int32) (M_faultAt : Int32) (M_traced : Int32) (M_round : Nat → Int32) (M_reads : Nat → Int32) (M_tape : Nat → Int32) (rr : Int32) (M_thrown_z : Int32) (M_rounds_z : Int32) (M_read_z : Int32) (M_taped_z : Int32) (M_latest_z : Int32) (M_length_z : Int32) (M_at_z : Int32) (M_sort_z : Int32) (M_from_z : Int32) (M_till_z : Int32) (M_fault_z : Int32) (M_faultAt_z : Int32) (M_round_z : Nat → Int32) (M_reads_z : Nat → Int32) (h : fX7_schedule M_thrown M_posts M_rounds M_read M_taped M_latest M_length M_at M_sort M_from M_till M_fault M_faultAt M_round M_reads M_tape = some (rr, M_thrown_z, M_rounds_z, M_read_z, M_taped_z, M_latest_z, M_length_z, M_at_z, M_sort_z, M_from_z, M_till_z, M_fault_z, M_faultAt_z, M_round_z, M_reads_z)) : Cti l yX7_schedule wsX7_schedule rmX7_schedule (dC, dI) (tyL cI cJ cZ cA) [(aM, .inr (7, [.int M_thrown, .int M_status, .ref aM_lane, .ref aM_many, .ref aM_item, .int M_posts, .ref aM_beside, .int M_rounds, .ref aM_round, .int M_read, .ref aM_reads, .ref aM_tape, .int M_taped, .int M_latest, .int M_length, .int M_at, .int M_sort, .int M_from, .int M_till, .int M_fault, .int M_faultAt, .ref aM_fewest, .ref aM_may, .ref aM_then, .ref aM_cases, .ref aM_next, .ref aM_trace, .int M_traced])), (aM_round, .inl (cI, 20, .inl M_round)), (aM_reads, .inl (cI, 20, .inl M_reads)), (aM_tape, .inl (cI, 300, .inl M_tape))] [(aM, .inr (7, [.int M_thrown_z, .int M_status, .ref aM_lane, .ref aM_many, .ref aM_item, .int M_posts, .ref aM_beside, .int M_rounds_z, .ref aM_round, .int M_read_z, .ref aM_reads, .ref aM_tape, .int M_taped_z, .int M_latest_z, .int M_length_z, .int M_at_z, .int M_sort_z, .int M_from_z, .int M_till_z, .int M_fault_z, .int M_faultAt_z, .ref aM_fewest, .ref aM_may, .ref aM_then, .ref aM_cases, .ref aM_next, .ref aM_trace, .int M_traced])), (aM_round, .inl (cI, 20, .inl M_round_z)), (aM_reads, .inl (cI, 20, .inl M_reads_z)), (aM_tape, .inl (cI, 300, .inl M_tape))] [.ref aM] rr := by
  refine ct_int (ty := .int) (cc := cX7_schedule) (maxL := 2) (by decide) rfl (Nat.le_of_ble_eq_true rfl) ?_
  intro p e s m args below meth c A Q ls hx hb hml hown hts hA hK hP hD hS hl hret
  have hl : lv_has ls 2 [(0, .ref aM)] := hl
  have k_0 := hts (.fieldLink RX7 173 "BeepNetModel" "read" "I") (by decide +kernel)
  have k_1 := hts (.fieldLink RX7 187 "BeepNetModel" "rounds" "I") (by decide +kernel)
  have k_2 := hts (.fieldLink RX7 22 "BeepNetModel" "round" "[I") (by decide +kernel)
  have k_3 := hts (.fieldLink RX7 25 "BeepNetModel" "reads" "[I") (by decide +kernel)
  have k_4 := hts (.fieldLink RX7 150 "BeepNetModel" "fault" "I") (by decide +kernel)
  have k_5 := hts (.fieldLink RX7 183 "BeepNetModel" "latest" "I") (by decide +kernel)
  have k_6 := hts (.constant RX7 186 (-1000100)) (by decide +kernel)
  have k_7 := hts (.fieldLink RX7 153 "BeepNetModel" "faultAt" "I") (by decide +kernel)
  have k_8 := hts (.fieldLink RX7 138 "BeepNetModel" "sort" "I") (by decide +kernel)
  have k_9 := hts (.fieldLink RX7 51 "BeepNetModel" "thrown" "I") (by decide +kernel)
  have k_10 := hts (.fieldLink RX7 121 "BeepNetModel" "taped" "I") (by decide +kernel)
  have k_11 := hts (.fieldLink RX7 126 "BeepNetModel" "length" "I") (by decide +kernel)
  have k_12 := hts (.fieldLink RX7 129 "BeepNetModel" "at" "I") (by decide +kernel)
  have hiX7 : ∀ w ∈ u_ws RX7 TX7 28, w ∈ wsX7_schedule := fun w hw => List.mem_cons_of_mem _ (List.mem_append_right _ hw)
  have hC92 : ∀ (n : Nat) (M_thrown : Int32) (M_rounds : Int32) (M_read : Int32) (M_taped : Int32) (M_latest : Int32) (M_length : Int32) (M_at : Int32) (M_sort : Int32) (M_from : Int32) (M_till : Int32) (M_fault : Int32) (M_faultAt : Int32) (M_round : Nat → Int32) (M_reads : Nat → Int32) (x1 : Int32) (H : Heap) (locs : List Loc) (ls : Array Slot), fX7_schedule_c92 M_posts M_tape n M_thrown M_rounds M_read M_taped M_latest M_length M_at M_sort M_from M_till M_fault M_faultAt M_round M_reads x1 = some (rr, M_thrown_z, M_rounds_z, M_read_z, M_taped_z, M_latest_z, M_length_z, M_at_z, M_sort_z, M_from_z, M_till_z, M_fault_z, M_faultAt_z, M_round_z, M_reads_z) → va_P (dC, dI) vwCl [(aM, .inr (7, [.int M_thrown, .int M_status, .ref aM_lane, .ref aM_many, .ref aM_item, .int M_posts, .ref aM_beside, .int M_rounds, .ref aM_round, .int M_read, .ref aM_reads, .ref aM_tape, .int M_taped, .int M_latest, .int M_length, .int M_at, .int M_sort, .int M_from, .int M_till, .int M_fault, .int M_faultAt, .ref aM_fewest, .ref aM_may, .ref aM_then, .ref aM_cases, .ref aM_next, .ref aM_trace, .int M_traced])), (aM_round, .inl (cI, 20, .inl M_round)), (aM_reads, .inl (cI, 20, .inl M_reads)), (aM_tape, .inl (cI, 300, .inl M_tape))] H → va_D A [(aM, .inr (7, [.int M_thrown, .int M_status, .ref aM_lane, .ref aM_many, .ref aM_item, .int M_posts, .ref aM_beside, .int M_rounds, .ref aM_round, .int M_read, .ref aM_reads, .ref aM_tape, .int M_taped, .int M_latest, .int M_length, .int M_at, .int M_sort, .int M_from, .int M_till, .int M_fault, .int M_faultAt, .ref aM_fewest, .ref aM_may, .ref aM_then, .ref aM_cases, .ref aM_next, .ref aM_trace, .int M_traced])), (aM_round, .inl (cI, 20, .inl M_round)), (aM_reads, .inl (cI, 20, .inl M_reads)), (aM_tape, .inl (cI, 300, .inl M_tape))] → va_S A s.heap H locs → lv_has ls 2 [(0, .ref aM), (1, .int x1)] → W p l e rmX7_schedule s m args below meth c H locs 0 0 Q (F0 m 92 ls []) := by
    intro n
    induction n with
    | zero => intro M_thrown M_rounds M_read M_taped M_latest M_length M_at M_sort M_from M_till M_fault M_faultAt M_round M_reads x1 H locs ls h; rw [fX7_schedule_c92] at h; cases h
    | succ n92 ih92 =>
      intro M_thrown M_rounds M_read M_taped M_latest M_length M_at M_sort M_from M_till M_fault M_faultAt M_round M_reads x1 H locs ls h hP hD hS hl
      rw [fX7_schedule_c92] at h
      refine lv_iload_n hx hb dX7_schedule_92 rfl (lv_at hl 1 rfl) ?_
      refine lv_aload_n hx hb dX7_schedule_93 rfl (lv_at hl 0 rfl) ?_
      refine ka_get (v := .int M_read) (C := RX7) (T := TX7) (Nf := 28) (ref := "BeepNetModel") hx hb hts hiX7 hown hK hP 0 rfl rfl 9 (by decide) k_0 rfl rfl dX7_schedule_94 ?_
      refine lv_icmp_ge (tgt := 118) hx hb dX7_schedule_97 (by decide) (fun c9301 => ?_) (fun c9301 => ?_)
      · have h := ift c9301 h
        refine lv_aload_n hx hb dX7_schedule_118 rfl (lv_at hl 0 rfl) ?_
        refine ka_get (v := .int M_rounds) (C := RX7) (T := TX7) (Nf := 28) (ref := "BeepNetModel") hx hb hts hiX7 hown hK hP 0 rfl rfl 7 (by decide) k_1 rfl rfl dX7_schedule_119 ?_
        obtain ⟨rfl, rfl, rfl, rfl, rfl, rfl, rfl, rfl, rfl, rfl, rfl, rfl, rfl, rfl, rfl⟩ := sj15 h
        exact hret _ _ _ _ _ rfl rfl hP hD hS dX7_schedule_122
      · have h := ifn c9301 h
        refine lv_aload_n hx hb dX7_schedule_100 rfl (lv_at hl 0 rfl) ?_
        refine ka_get (v := .ref aM_round) (C := RX7) (T := TX7) (Nf := 28) (ref := "BeepNetModel") hx hb hts hiX7 hown hK hP 0 rfl rfl 8 (by decide) k_2 rfl rfl dX7_schedule_101 ?_
        refine lv_iload_n hx hb dX7_schedule_104 rfl (lv_at hl 1 rfl) ?_
        refine lv_aload_n hx hb dX7_schedule_105 rfl (lv_at hl 0 rfl) ?_
        refine ka_get (v := .ref aM_reads) (C := RX7) (T := TX7) (Nf := 28) (ref := "BeepNetModel") hx hb hts hiX7 hown hK hP 0 rfl rfl 10 (by decide) k_3 rfl rfl dX7_schedule_106 ?_
        refine lv_iload_n hx hb dX7_schedule_109 rfl (lv_at hl 1 rfl) ?_
        obtain ⟨v9302, ev9302, hn9303, h⟩ := ldx_s h
        refine ka_ild hx hb hK hP 2 0 ev9302 rfl rfl hn9303 dX7_schedule_110 ?_
        obtain ⟨g9304, eg9304, hn9305, h⟩ := sti_s h
        refine ka_ist (w1 := [(aM, .inr (7, [.int M_thrown, .int M_status, .ref aM_lane, .ref aM_many, .ref aM_item, .int M_posts, .ref aM_beside, .int M_rounds, .ref aM_round, .int M_read, .ref aM_reads, .ref aM_tape, .int M_taped, .int M_latest, .int M_length, .int M_at, .int M_sort, .int M_from, .int M_till, .int M_fault, .int M_faultAt, .ref aM_fewest, .ref aM_may, .ref aM_then, .ref aM_cases, .ref aM_next, .ref aM_trace, .int M_traced])), (aM_round, .inl (cI, 20, .inl g9304)), (aM_reads, .inl (cI, 20, .inl M_reads)), (aM_tape, .inl (cI, 300, .inl M_tape))]) hx hb hK hP hD hS 1 0 eg9304 rfl rfl hn9305 dX7_schedule_111 rfl (fun H locs hP hD hS => ?_)
        refine lv_iinc (v := x1 + 1) (lv' := [(1, .int (x1 + 1)), (0, .ref aM)]) hx hb dX7_schedule_112 hl (k := 1) rfl rfl (by decide) rfl (fun ls hl => ?_)
        refine lv_goto (tgt := 92) hx hb dX7_schedule_115 (by decide) ?_
        exact ih92 M_thrown M_rounds M_read M_taped M_latest M_length M_at M_sort M_from M_till M_fault M_faultAt g9304 M_reads (x1 + 1) _ _ _ h hP hD hS (lv_sub hl [1, 0] rfl)
  have hC59 : ∀ (M_thrown : Int32) (M_rounds : Int32) (M_read : Int32) (M_taped : Int32) (M_latest : Int32) (M_length : Int32) (M_at : Int32) (M_sort : Int32) (M_from : Int32) (M_till : Int32) (M_fault : Int32) (M_faultAt : Int32) (M_round : Nat → Int32) (M_reads : Nat → Int32) (H : Heap) (locs : List Loc) (ls : Array Slot), fX7_schedule_c59 M_posts M_tape M_thrown M_rounds M_read M_taped M_latest M_length M_at M_sort M_from M_till M_fault M_faultAt M_round M_reads = some (rr, M_thrown_z, M_rounds_z, M_read_z, M_taped_z, M_latest_z, M_length_z, M_at_z, M_sort_z, M_from_z, M_till_z, M_fault_z, M_faultAt_z, M_round_z, M_reads_z) → va_P (dC, dI) vwCl [(aM, .inr (7, [.int M_thrown, .int M_status, .ref aM_lane, .ref aM_many, .ref aM_item, .int M_posts, .ref aM_beside, .int M_rounds, .ref aM_round, .int M_read, .ref aM_reads, .ref aM_tape, .int M_taped, .int M_latest, .int M_length, .int M_at, .int M_sort, .int M_from, .int M_till, .int M_fault, .int M_faultAt, .ref aM_fewest, .ref aM_may, .ref aM_then, .ref aM_cases, .ref aM_next, .ref aM_trace, .int M_traced])), (aM_round, .inl (cI, 20, .inl M_round)), (aM_reads, .inl (cI, 20, .inl M_reads)), (aM_tape, .inl (cI, 300, .inl M_tape))] H → va_D A [(aM, .inr (7, [.int M_thrown, .int M_status, .ref aM_lane, .ref aM_many, .ref aM_item, .int M_posts, .ref aM_beside, .int M_rounds, .ref aM_round, .int M_read, .ref aM_reads, .ref aM_tape, .int M_taped, .int M_latest, .int M_length, .int M_at, .int M_sort, .int M_from, .int M_till, .int M_fault, .int M_faultAt, .ref aM_fewest, .ref aM_may, .ref aM_then, .ref aM_cases, .ref aM_next, .ref aM_trace, .int M_traced])), (aM_round, .inl (cI, 20, .inl M_round)), (aM_reads, .inl (cI, 20, .inl M_reads)), (aM_tape, .inl (cI, 300, .inl M_tape))] → va_S A s.heap H locs → lv_has ls 2 [(0, .ref aM)] → W p l e rmX7_schedule s m args below meth c H locs 0 0 Q (F0 m 59 ls []) := by
    intro M_thrown M_rounds M_read M_taped M_latest M_length M_at M_sort M_from M_till M_fault M_faultAt M_round M_reads H locs ls h hP hD hS hl
    unfold fX7_schedule_c59 at h
    refine lv_aload_n hx hb dX7_schedule_59 rfl (lv_at hl 0 rfl) ?_
    refine ka_get (v := .int M_fault) (C := RX7) (T := TX7) (Nf := 28) (ref := "BeepNetModel") hx hb hts hiX7 hown hK hP 0 rfl rfl 19 (by decide) k_4 rfl rfl dX7_schedule_60 ?_
    refine lv_if_le (tgt := 82) hx hb dX7_schedule_63 (by decide) (fun c6001 => ?_) (fun c6001 => ?_)
    · have h := ift c6001 h
      refine lv_aload_n hx hb dX7_schedule_82 rfl (lv_at hl 0 rfl) ?_
      refine lv_aload_n hx hb dX7_schedule_83 rfl (lv_at hl 0 rfl) ?_
      refine ka_get (v := .int M_read) (C := RX7) (T := TX7) (Nf := 28) (ref := "BeepNetModel") hx hb hts hiX7 hown hK hP 0 rfl rfl 9 (by decide) k_0 rfl rfl dX7_schedule_84 ?_
      refine ka_put (w1 := [(aM, .inr (7, [.int M_thrown, .int M_status, .ref aM_lane, .ref aM_many, .ref aM_item, .int M_posts, .ref aM_beside, .int M_read, .ref aM_round, .int M_read, .ref aM_reads, .ref aM_tape, .int M_taped, .int M_latest, .int M_length, .int M_at, .int M_sort, .int M_from, .int M_till, .int M_fault, .int M_faultAt, .ref aM_fewest, .ref aM_may, .ref aM_then, .ref aM_cases, .ref aM_next, .ref aM_trace, .int M_traced])), (aM_round, .inl (cI, 20, .inl M_round)), (aM_reads, .inl (cI, 20, .inl M_reads)), (aM_tape, .inl (cI, 300, .inl M_tape))]) (C := RX7) (T := TX7) (Nf := 28) (ref := "BeepNetModel") hx hb hts hiX7 tyX7 tyX7_ok nmX7 hown hK hP hD hS 0 rfl rfl 7 (by decide) k_1 rfl rfl rfl (Nat.le_of_ble_eq_true rfl) dX7_schedule_87 rfl (fun H locs hP hD hS => ?_)
      refine lv_iconst (v := 0) hx hb dX7_schedule_90 (by decide) ?_
      refine lv_istore_n (lv' := [(1, .int 0), (0, .ref aM)]) hx hb dX7_schedule_91 rfl hl (by decide) rfl (fun ls hl => ?_)
      exact hC92 FU M_thrown M_read M_read M_taped M_latest M_length M_at M_sort M_from M_till M_fault M_faultAt M_round M_reads 0 _ _ _ h hP hD hS (lv_sub hl [1, 0] rfl)
    · have h := ifn c6001 h
      refine lv_aload_n hx hb dX7_schedule_66 rfl (lv_at hl 0 rfl) ?_
      refine lv_aload_n hx hb dX7_schedule_67 rfl (lv_at hl 0 rfl) ?_
      refine ka_get (v := .int M_fault) (C := RX7) (T := TX7) (Nf := 28) (ref := "BeepNetModel") hx hb hts hiX7 hown hK hP 0 rfl rfl 19 (by decide) k_4 rfl rfl dX7_schedule_68 ?_
      refine ka_put (w1 := [(aM, .inr (7, [.int M_thrown, .int M_status, .ref aM_lane, .ref aM_many, .ref aM_item, .int M_posts, .ref aM_beside, .int M_rounds, .ref aM_round, .int M_read, .ref aM_reads, .ref aM_tape, .int M_taped, .int M_fault, .int M_length, .int M_at, .int M_sort, .int M_from, .int M_till, .int M_fault, .int M_faultAt, .ref aM_fewest, .ref aM_may, .ref aM_then, .ref aM_cases, .ref aM_next, .ref aM_trace, .int M_traced])), (aM_round, .inl (cI, 20, .inl M_round)), (aM_reads, .inl (cI, 20, .inl M_reads)), (aM_tape, .inl (cI, 300, .inl M_tape))]) (C := RX7) (T := TX7) (Nf := 28) (ref := "BeepNetModel") hx hb hts hiX7 tyX7 tyX7_ok nmX7 hown hK hP hD hS 0 rfl rfl 13 (by decide) k_5 rfl rfl rfl (Nat.le_of_ble_eq_true rfl) dX7_schedule_71 rfl (fun H locs hP hD hS => ?_)
      refine lv_ldc hx hb hown k_6 dX7_schedule_74 ?_
      refine lv_aload_n hx hb dX7_schedule_76 rfl (lv_at hl 0 rfl) ?_
      refine ka_get (v := .int M_faultAt) (C := RX7) (T := TX7) (Nf := 28) (ref := "BeepNetModel") hx hb hts hiX7 hown hK hP 0 rfl rfl 20 (by decide) k_7 rfl rfl dX7_schedule_77 ?_
      refine lv_isub hx hb dX7_schedule_80 ?_
      obtain ⟨rfl, rfl, rfl, rfl, rfl, rfl, rfl, rfl, rfl, rfl, rfl, rfl, rfl, rfl, rfl⟩ := sj15 h
      exact hret _ _ _ _ _ rfl rfl hP hD hS dX7_schedule_81
  have hC37 : ∀ (n : Nat) (M_thrown : Int32) (M_rounds : Int32) (M_read : Int32) (M_taped : Int32) (M_latest : Int32) (M_length : Int32) (M_at : Int32) (M_sort : Int32) (M_from : Int32) (M_till : Int32) (M_fault : Int32) (M_faultAt : Int32) (M_round : Nat → Int32) (M_reads : Nat → Int32) (H : Heap) (locs : List Loc) (ls : Array Slot), fX7_schedule_c37 M_posts M_tape n M_thrown M_rounds M_read M_taped M_latest M_length M_at M_sort M_from M_till M_fault M_faultAt M_round M_reads = some (rr, M_thrown_z, M_rounds_z, M_read_z, M_taped_z, M_latest_z, M_length_z, M_at_z, M_sort_z, M_from_z, M_till_z, M_fault_z, M_faultAt_z, M_round_z, M_reads_z) → va_P (dC, dI) vwCl [(aM, .inr (7, [.int M_thrown, .int M_status, .ref aM_lane, .ref aM_many, .ref aM_item, .int M_posts, .ref aM_beside, .int M_rounds, .ref aM_round, .int M_read, .ref aM_reads, .ref aM_tape, .int M_taped, .int M_latest, .int M_length, .int M_at, .int M_sort, .int M_from, .int M_till, .int M_fault, .int M_faultAt, .ref aM_fewest, .ref aM_may, .ref aM_then, .ref aM_cases, .ref aM_next, .ref aM_trace, .int M_traced])), (aM_round, .inl (cI, 20, .inl M_round)), (aM_reads, .inl (cI, 20, .inl M_reads)), (aM_tape, .inl (cI, 300, .inl M_tape))] H → va_D A [(aM, .inr (7, [.int M_thrown, .int M_status, .ref aM_lane, .ref aM_many, .ref aM_item, .int M_posts, .ref aM_beside, .int M_rounds, .ref aM_round, .int M_read, .ref aM_reads, .ref aM_tape, .int M_taped, .int M_latest, .int M_length, .int M_at, .int M_sort, .int M_from, .int M_till, .int M_fault, .int M_faultAt, .ref aM_fewest, .ref aM_may, .ref aM_then, .ref aM_cases, .ref aM_next, .ref aM_trace, .int M_traced])), (aM_round, .inl (cI, 20, .inl M_round)), (aM_reads, .inl (cI, 20, .inl M_reads)), (aM_tape, .inl (cI, 300, .inl M_tape))] → va_S A s.heap H locs → lv_has ls 2 [(0, .ref aM)] → W p l e rmX7_schedule s m args below meth c H locs 0 0 Q (F0 m 37 ls []) := by
    intro n
    induction n with
    | zero => intro M_thrown M_rounds M_read M_taped M_latest M_length M_at M_sort M_from M_till M_fault M_faultAt M_round M_reads H locs ls h; rw [fX7_schedule_c37] at h; cases h
    | succ n37 ih37 =>
      intro M_thrown M_rounds M_read M_taped M_latest M_length M_at M_sort M_from M_till M_fault M_faultAt M_round M_reads H locs ls h hP hD hS hl
      rw [fX7_schedule_c37] at h
      refine lv_aload_n hx hb dX7_schedule_37 rfl (lv_at hl 0 rfl) ?_
      refine ka_get (v := .int M_fault) (C := RX7) (T := TX7) (Nf := 28) (ref := "BeepNetModel") hx hb hts hiX7 hown hK hP 0 rfl rfl 19 (by decide) k_4 rfl rfl dX7_schedule_38 ?_
      refine lv_if_ne (tgt := 59) hx hb dX7_schedule_41 (by decide) (fun c3801 => ?_) (fun c3801 => ?_)
      · have h := ifn c3801 h
        exact hC59 M_thrown M_rounds M_read M_taped M_latest M_length M_at M_sort M_from M_till M_fault M_faultAt M_round M_reads _ _ _ h hP hD hS (lv_sub hl [0] rfl)
      · have h := ift c3801 h
        refine lv_aload_n hx hb dX7_schedule_44 rfl (lv_at hl 0 rfl) ?_
        refine ka_get (v := .int M_sort) (C := RX7) (T := TX7) (Nf := 28) (ref := "BeepNetModel") hx hb hts hiX7 hown hK hP 0 rfl rfl 16 (by decide) k_8 rfl rfl dX7_schedule_45 ?_
        refine lv_iconst (v := 1) hx hb dX7_schedule_48 (by decide) ?_
        refine lv_icmp_eq (tgt := 59) hx hb dX7_schedule_49 (by decide) (fun c3802 => ?_) (fun c3802 => ?_)
        · have h := ift c3802 h
          exact hC59 M_thrown M_rounds M_read M_taped M_latest M_length M_at M_sort M_from M_till M_fault M_faultAt M_round M_reads _ _ _ h hP hD hS (lv_sub hl [0] rfl)
        · have h := ifn c3802 h
          refine lv_aload_n hx hb dX7_schedule_52 rfl (lv_at hl 0 rfl) ?_
          obtain ⟨M_read_3803, M_at_3804, M_sort_3805, M_from_3806, M_till_3807, M_fault_3808, M_faultAt_3809, M_reads_3810, e3811, h⟩ := bd8_s h
          refine kc_vv (rest := []) (wr := [(aM_round, .inl (cI, 20, .inl M_round))]) (wF := [(aM, .inr (7, [.int M_thrown, .int M_status, .ref aM_lane, .ref aM_many, .ref aM_item, .int M_posts, .ref aM_beside, .int M_rounds, .ref aM_round, .int M_read_3803, .ref aM_reads, .ref aM_tape, .int M_taped, .int M_latest, .int M_length, .int M_at_3804, .int M_sort_3805, .int M_from_3806, .int M_till_3807, .int M_fault_3808, .int M_faultAt_3809, .ref aM_fewest, .ref aM_may, .ref aM_then, .ref aM_cases, .ref aM_next, .ref aM_trace, .int M_traced])), (aM_round, .inl (cI, 20, .inl M_round)), (aM_reads, .inl (cI, 20, .inl M_reads_3810)), (aM_tape, .inl (cI, 300, .inl M_tape))]) ⟨hx, hb, hml, hown, hts⟩ (c_X7_readRound l dC dI cI cJ cZ cA aM aM_lane aM_many aM_item aM_beside aM_round aM_reads aM_tape aM_fewest aM_may aM_then aM_cases aM_next aM_trace M_thrown M_status M_posts M_rounds M_read M_taped M_latest M_length M_at M_sort M_from M_till M_fault M_faultAt M_traced M_reads M_tape M_read_3803 M_at_3804 M_sort_3805 M_from_3806 M_till_3807 M_fault_3808 M_faultAt_3809 M_reads_3810 e3811) (cwV 0 hts gX7_schedule_X7_readRound rfl rfl rfl (by decide +kernel) ⟨Nat.le_of_ble_eq_true rfl, Nat.le_of_ble_eq_true rfl⟩) hK hP hD hS hA [0, 2, 3] [1] [1, 0, 2, 3] 0 rfl rfl rfl rfl (by decide) rfl rfl rfl rfl rfl rfl hl.1 rfl (Nat.le_of_ble_eq_true rfl) dX7_schedule_53 ⟨Nat.zero_le _, Nat.zero_le _⟩ (fun H locs hP hD hS => ?_)
          refine lv_goto (tgt := 37) hx hb dX7_schedule_56 (by decide) ?_
          exact ih37 M_thrown M_rounds M_read_3803 M_taped M_latest M_length M_at_3804 M_sort_3805 M_from_3806 M_till_3807 M_fault_3808 M_faultAt_3809 M_round M_reads_3810 _ _ _ h hP hD hS (lv_sub hl [0] rfl)
  unfold fX7_schedule at h
  refine lv_aload_n hx hb dX7_schedule_0 rfl (lv_at hl 0 rfl) ?_
  refine lv_iconst (v := 0) hx hb dX7_schedule_1 (by decide) ?_
  refine ka_put (w1 := [(aM, .inr (7, [.int 0, .int M_status, .ref aM_lane, .ref aM_many, .ref aM_item, .int M_posts, .ref aM_beside, .int M_rounds, .ref aM_round, .int M_read, .ref aM_reads, .ref aM_tape, .int M_taped, .int M_latest, .int M_length, .int M_at, .int M_sort, .int M_from, .int M_till, .int M_fault, .int M_faultAt, .ref aM_fewest, .ref aM_may, .ref aM_then, .ref aM_cases, .ref aM_next, .ref aM_trace, .int M_traced])), (aM_round, .inl (cI, 20, .inl M_round)), (aM_reads, .inl (cI, 20, .inl M_reads)), (aM_tape, .inl (cI, 300, .inl M_tape))]) (C := RX7) (T := TX7) (Nf := 28) (ref := "BeepNetModel") hx hb hts hiX7 tyX7 tyX7_ok nmX7 hown hK hP hD hS 0 rfl rfl 0 (by decide) k_9 rfl rfl rfl (Nat.le_of_ble_eq_true rfl) dX7_schedule_2 rfl (fun H locs hP hD hS => ?_)
  refine lv_aload_n hx hb dX7_schedule_5 rfl (lv_at hl 0 rfl) ?_
  refine lv_aload_n hx hb dX7_schedule_6 rfl (lv_at hl 0 rfl) ?_
  refine ka_get (v := .int M_taped) (C := RX7) (T := TX7) (Nf := 28) (ref := "BeepNetModel") hx hb hts hiX7 hown hK hP 0 rfl rfl 12 (by decide) k_10 rfl rfl dX7_schedule_7 ?_
  refine ka_put (w1 := [(aM, .inr (7, [.int 0, .int M_status, .ref aM_lane, .ref aM_many, .ref aM_item, .int M_posts, .ref aM_beside, .int M_rounds, .ref aM_round, .int M_read, .ref aM_reads, .ref aM_tape, .int M_taped, .int M_latest, .int M_taped, .int M_at, .int M_sort, .int M_from, .int M_till, .int M_fault, .int M_faultAt, .ref aM_fewest, .ref aM_may, .ref aM_then, .ref aM_cases, .ref aM_next, .ref aM_trace, .int M_traced])), (aM_round, .inl (cI, 20, .inl M_round)), (aM_reads, .inl (cI, 20, .inl M_reads)), (aM_tape, .inl (cI, 300, .inl M_tape))]) (C := RX7) (T := TX7) (Nf := 28) (ref := "BeepNetModel") hx hb hts hiX7 tyX7 tyX7_ok nmX7 hown hK hP hD hS 0 rfl rfl 14 (by decide) k_11 rfl rfl rfl (Nat.le_of_ble_eq_true rfl) dX7_schedule_10 rfl (fun H locs hP hD hS => ?_)
  refine lv_aload_n hx hb dX7_schedule_13 rfl (lv_at hl 0 rfl) ?_
  refine lv_iconst (v := 0) hx hb dX7_schedule_14 (by decide) ?_
  refine ka_put (w1 := [(aM, .inr (7, [.int 0, .int M_status, .ref aM_lane, .ref aM_many, .ref aM_item, .int M_posts, .ref aM_beside, .int M_rounds, .ref aM_round, .int M_read, .ref aM_reads, .ref aM_tape, .int 0, .int M_latest, .int M_taped, .int M_at, .int M_sort, .int M_from, .int M_till, .int M_fault, .int M_faultAt, .ref aM_fewest, .ref aM_may, .ref aM_then, .ref aM_cases, .ref aM_next, .ref aM_trace, .int M_traced])), (aM_round, .inl (cI, 20, .inl M_round)), (aM_reads, .inl (cI, 20, .inl M_reads)), (aM_tape, .inl (cI, 300, .inl M_tape))]) (C := RX7) (T := TX7) (Nf := 28) (ref := "BeepNetModel") hx hb hts hiX7 tyX7 tyX7_ok nmX7 hown hK hP hD hS 0 rfl rfl 12 (by decide) k_10 rfl rfl rfl (Nat.le_of_ble_eq_true rfl) dX7_schedule_15 rfl (fun H locs hP hD hS => ?_)
  refine lv_aload_n hx hb dX7_schedule_18 rfl (lv_at hl 0 rfl) ?_
  refine lv_iconst (v := 0) hx hb dX7_schedule_19 (by decide) ?_
  refine ka_put (w1 := [(aM, .inr (7, [.int 0, .int M_status, .ref aM_lane, .ref aM_many, .ref aM_item, .int M_posts, .ref aM_beside, .int M_rounds, .ref aM_round, .int M_read, .ref aM_reads, .ref aM_tape, .int 0, .int M_latest, .int M_taped, .int 0, .int M_sort, .int M_from, .int M_till, .int M_fault, .int M_faultAt, .ref aM_fewest, .ref aM_may, .ref aM_then, .ref aM_cases, .ref aM_next, .ref aM_trace, .int M_traced])), (aM_round, .inl (cI, 20, .inl M_round)), (aM_reads, .inl (cI, 20, .inl M_reads)), (aM_tape, .inl (cI, 300, .inl M_tape))]) (C := RX7) (T := TX7) (Nf := 28) (ref := "BeepNetModel") hx hb hts hiX7 tyX7 tyX7_ok nmX7 hown hK hP hD hS 0 rfl rfl 15 (by decide) k_12 rfl rfl rfl (Nat.le_of_ble_eq_true rfl) dX7_schedule_20 rfl (fun H locs hP hD hS => ?_)
  refine lv_aload_n hx hb dX7_schedule_23 rfl (lv_at hl 0 rfl) ?_
  refine lv_iconst (v := 0) hx hb dX7_schedule_24 (by decide) ?_
  refine ka_put (w1 := [(aM, .inr (7, [.int 0, .int M_status, .ref aM_lane, .ref aM_many, .ref aM_item, .int M_posts, .ref aM_beside, .int M_rounds, .ref aM_round, .int M_read, .ref aM_reads, .ref aM_tape, .int 0, .int M_latest, .int M_taped, .int 0, .int M_sort, .int M_from, .int M_till, .int 0, .int M_faultAt, .ref aM_fewest, .ref aM_may, .ref aM_then, .ref aM_cases, .ref aM_next, .ref aM_trace, .int M_traced])), (aM_round, .inl (cI, 20, .inl M_round)), (aM_reads, .inl (cI, 20, .inl M_reads)), (aM_tape, .inl (cI, 300, .inl M_tape))]) (C := RX7) (T := TX7) (Nf := 28) (ref := "BeepNetModel") hx hb hts hiX7 tyX7 tyX7_ok nmX7 hown hK hP hD hS 0 rfl rfl 19 (by decide) k_4 rfl rfl rfl (Nat.le_of_ble_eq_true rfl) dX7_schedule_25 rfl (fun H locs hP hD hS => ?_)
  refine lv_aload_n hx hb dX7_schedule_28 rfl (lv_at hl 0 rfl) ?_
  refine lv_iconst (v := 0) hx hb dX7_schedule_29 (by decide) ?_
  refine ka_put (w1 := [(aM, .inr (7, [.int 0, .int M_status, .ref aM_lane, .ref aM_many, .ref aM_item, .int M_posts, .ref aM_beside, .int M_rounds, .ref aM_round, .int 0, .ref aM_reads, .ref aM_tape, .int 0, .int M_latest, .int M_taped, .int 0, .int M_sort, .int M_from, .int M_till, .int 0, .int M_faultAt, .ref aM_fewest, .ref aM_may, .ref aM_then, .ref aM_cases, .ref aM_next, .ref aM_trace, .int M_traced])), (aM_round, .inl (cI, 20, .inl M_round)), (aM_reads, .inl (cI, 20, .inl M_reads)), (aM_tape, .inl (cI, 300, .inl M_tape))]) (C := RX7) (T := TX7) (Nf := 28) (ref := "BeepNetModel") hx hb hts hiX7 tyX7 tyX7_ok nmX7 hown hK hP hD hS 0 rfl rfl 9 (by decide) k_0 rfl rfl rfl (Nat.le_of_ble_eq_true rfl) dX7_schedule_30 rfl (fun H locs hP hD hS => ?_)
  refine lv_aload_n hx hb dX7_schedule_33 rfl (lv_at hl 0 rfl) ?_
  obtain ⟨M_at_1, M_sort_2, M_from_3, M_till_4, e5, h⟩ := bd4_s h
  refine kc_vv (rest := []) (wr := [(aM_round, .inl (cI, 20, .inl M_round)), (aM_reads, .inl (cI, 20, .inl M_reads))]) (wF := [(aM, .inr (7, [.int 0, .int M_status, .ref aM_lane, .ref aM_many, .ref aM_item, .int M_posts, .ref aM_beside, .int M_rounds, .ref aM_round, .int 0, .ref aM_reads, .ref aM_tape, .int 0, .int M_latest, .int M_taped, .int M_at_1, .int M_sort_2, .int M_from_3, .int M_till_4, .int 0, .int M_faultAt, .ref aM_fewest, .ref aM_may, .ref aM_then, .ref aM_cases, .ref aM_next, .ref aM_trace, .int M_traced])), (aM_round, .inl (cI, 20, .inl M_round)), (aM_reads, .inl (cI, 20, .inl M_reads)), (aM_tape, .inl (cI, 300, .inl M_tape))]) ⟨hx, hb, hml, hown, hts⟩ (c_X7_step l dC dI cI cJ cZ cA aM aM_lane aM_many aM_item aM_beside aM_round aM_reads aM_tape aM_fewest aM_may aM_then aM_cases aM_next aM_trace 0 M_status M_posts M_rounds 0 0 M_latest M_taped 0 M_sort M_from M_till 0 M_faultAt M_traced M_tape M_at_1 M_sort_2 M_from_3 M_till_4 e5) (cwV 0 hts gX7_schedule_X7_step rfl rfl rfl (by decide +kernel) ⟨Nat.le_of_ble_eq_true rfl, Nat.le_of_ble_eq_true rfl⟩) hK hP hD hS hA [0, 3] [1, 2] [2, 0, 1, 3] 0 rfl rfl rfl rfl (by decide) rfl rfl rfl rfl rfl rfl hl.1 rfl (Nat.le_of_ble_eq_true rfl) dX7_schedule_34 ⟨Nat.zero_le _, Nat.zero_le _⟩ (fun H locs hP hD hS => ?_)
  exact hC37 FU 0 M_rounds 0 0 M_latest M_taped M_at_1 M_sort_2 M_from_3 M_till_4 0 M_faultAt M_round M_reads _ _ _ h hP hD hS (lv_sub hl [0] rfl)
set_option maxHeartbeats 4000000 in
set_option maxRecDepth 100000 in
theorem c_X7_fault (l : Launch) (dC : Nat → ClassId) (dI : Nat → Nat → Nat) (cI cJ cZ cA : ClassId) (aM aM_lane aM_many aM_item aM_beside aM_round aM_reads aM_tape aM_fewest aM_may aM_then aM_cases aM_next aM_trace : Nat) (M_thrown : Int32) (M_status : Int32) (M_posts : Int32) (M_rounds : Int32) (M_read : Int32) (M_taped : Int32) (M_latest : Int32) (M_length : Int32) (M_at : Int32) (M_sort : Int32) (M_from : Int32) (M_till : Int32) (M_fault : Int32) (M_faultAt : Int32) (M_traced : Int32) (rr : Int32) (M_thrown_z : Int32) (h : fX7_fault M_thrown M_latest = some (rr, M_thrown_z)) : Cti l yX7_fault wsX7_fault rmX7_fault (dC, dI) (tyL cI cJ cZ cA) [(aM, .inr (7, [.int M_thrown, .int M_status, .ref aM_lane, .ref aM_many, .ref aM_item, .int M_posts, .ref aM_beside, .int M_rounds, .ref aM_round, .int M_read, .ref aM_reads, .ref aM_tape, .int M_taped, .int M_latest, .int M_length, .int M_at, .int M_sort, .int M_from, .int M_till, .int M_fault, .int M_faultAt, .ref aM_fewest, .ref aM_may, .ref aM_then, .ref aM_cases, .ref aM_next, .ref aM_trace, .int M_traced]))] [(aM, .inr (7, [.int M_thrown_z, .int M_status, .ref aM_lane, .ref aM_many, .ref aM_item, .int M_posts, .ref aM_beside, .int M_rounds, .ref aM_round, .int M_read, .ref aM_reads, .ref aM_tape, .int M_taped, .int M_latest, .int M_length, .int M_at, .int M_sort, .int M_from, .int M_till, .int M_fault, .int M_faultAt, .ref aM_fewest, .ref aM_may, .ref aM_then, .ref aM_cases, .ref aM_next, .ref aM_trace, .int M_traced]))] [.ref aM] rr := by
  refine ct_int (ty := .int) (cc := cX7_fault) (maxL := 1) (by decide) rfl (Nat.le_of_ble_eq_true rfl) ?_
  intro p e s m args below meth c A Q ls hx hb hml hown hts hA hK hP hD hS hl hret
  have hl : lv_has ls 1 [(0, .ref aM)] := hl
  have k_0 := hts (.fieldLink RX7 51 "BeepNetModel" "thrown" "I") (by decide +kernel)
  have k_1 := hts (.fieldLink RX7 183 "BeepNetModel" "latest" "I") (by decide +kernel)
  have hiX7 : ∀ w ∈ u_ws RX7 TX7 28, w ∈ wsX7_fault := fun w hw => List.mem_cons_of_mem _ (List.mem_append_right _ hw)
  unfold fX7_fault at h
  refine lv_aload_n hx hb dX7_fault_0 rfl (lv_at hl 0 rfl) ?_
  refine lv_iconst (v := 0) hx hb dX7_fault_1 (by decide) ?_
  refine ka_put (w1 := [(aM, .inr (7, [.int 0, .int M_status, .ref aM_lane, .ref aM_many, .ref aM_item, .int M_posts, .ref aM_beside, .int M_rounds, .ref aM_round, .int M_read, .ref aM_reads, .ref aM_tape, .int M_taped, .int M_latest, .int M_length, .int M_at, .int M_sort, .int M_from, .int M_till, .int M_fault, .int M_faultAt, .ref aM_fewest, .ref aM_may, .ref aM_then, .ref aM_cases, .ref aM_next, .ref aM_trace, .int M_traced]))]) (C := RX7) (T := TX7) (Nf := 28) (ref := "BeepNetModel") hx hb hts hiX7 tyX7 tyX7_ok nmX7 hown hK hP hD hS 0 rfl rfl 0 (by decide) k_0 rfl rfl rfl (Nat.le_of_ble_eq_true rfl) dX7_fault_2 rfl (fun H locs hP hD hS => ?_)
  refine lv_aload_n hx hb dX7_fault_5 rfl (lv_at hl 0 rfl) ?_
  refine ka_get (v := .int M_latest) (C := RX7) (T := TX7) (Nf := 28) (ref := "BeepNetModel") hx hb hts hiX7 hown hK hP 0 rfl rfl 13 (by decide) k_1 rfl rfl dX7_fault_6 ?_
  obtain ⟨rfl, rfl⟩ := sj2 h
  exact hret _ _ _ _ _ rfl rfl hP hD hS dX7_fault_9
set_option maxHeartbeats 4000000 in
set_option maxRecDepth 100000 in
theorem c_X7_soundsIn (l : Launch) (dC : Nat → ClassId) (dI : Nat → Nat → Nat) (cI cJ cZ cA : ClassId) (aM aM_lane aM_many aM_item aM_beside aM_round aM_reads aM_tape aM_fewest aM_may aM_then aM_cases aM_next aM_trace : Nat) (M_thrown : Int32) (M_status : Int32) (M_posts : Int32) (M_rounds : Int32) (M_read : Int32) (M_taped : Int32) (M_latest : Int32) (M_length : Int32) (M_at : Int32) (M_sort : Int32) (M_from : Int32) (M_till : Int32) (M_fault : Int32) (M_faultAt : Int32) (M_traced : Int32) (M_round : Nat → Int32) (p0 : Int32) (rr : Int32) (h : fX7_soundsIn M_posts M_rounds M_round p0 = some rr) : Cti l yX7_soundsIn wsX7_soundsIn rmX7_soundsIn (dC, dI) (tyL cI cJ cZ cA) [(aM, .inr (7, [.int M_thrown, .int M_status, .ref aM_lane, .ref aM_many, .ref aM_item, .int M_posts, .ref aM_beside, .int M_rounds, .ref aM_round, .int M_read, .ref aM_reads, .ref aM_tape, .int M_taped, .int M_latest, .int M_length, .int M_at, .int M_sort, .int M_from, .int M_till, .int M_fault, .int M_faultAt, .ref aM_fewest, .ref aM_may, .ref aM_then, .ref aM_cases, .ref aM_next, .ref aM_trace, .int M_traced])), (aM_round, .inl (cI, 20, .inl M_round))] [(aM, .inr (7, [.int M_thrown, .int M_status, .ref aM_lane, .ref aM_many, .ref aM_item, .int M_posts, .ref aM_beside, .int M_rounds, .ref aM_round, .int M_read, .ref aM_reads, .ref aM_tape, .int M_taped, .int M_latest, .int M_length, .int M_at, .int M_sort, .int M_from, .int M_till, .int M_fault, .int M_faultAt, .ref aM_fewest, .ref aM_may, .ref aM_then, .ref aM_cases, .ref aM_next, .ref aM_trace, .int M_traced])), (aM_round, .inl (cI, 20, .inl M_round))] [.ref aM, .int p0] rr := by
  refine ct_int (ty := .int) (cc := cX7_soundsIn) (maxL := 2) (by decide) rfl (Nat.le_of_ble_eq_true rfl) ?_
  intro p e s m args below meth c A Q ls hx hb hml hown hts hA hK hP hD hS hl hret
  have hl : lv_has ls 2 [(0, .ref aM), (1, .int p0)] := hl
  have k_0 := hts (.fieldLink RX7 22 "BeepNetModel" "round" "[I") (by decide +kernel)
  have k_1 := hts (.fieldLink RX7 187 "BeepNetModel" "rounds" "I") (by decide +kernel)
  have hiX7 : ∀ w ∈ u_ws RX7 TX7 28, w ∈ wsX7_soundsIn := fun w hw => List.mem_cons_of_mem _ (List.mem_append_right _ hw)
  unfold fX7_soundsIn at h
  refine lv_aload_n hx hb dX7_soundsIn_0 rfl (lv_at hl 0 rfl) ?_
  refine ka_get (v := .ref aM_round) (C := RX7) (T := TX7) (Nf := 28) (ref := "BeepNetModel") hx hb hts hiX7 hown hK hP 0 rfl rfl 8 (by decide) k_0 rfl rfl dX7_soundsIn_1 ?_
  refine lv_iload_n hx hb dX7_soundsIn_4 rfl (lv_at hl 1 rfl) ?_
  refine lv_aload_n hx hb dX7_soundsIn_5 rfl (lv_at hl 0 rfl) ?_
  refine ka_get (v := .int M_rounds) (C := RX7) (T := TX7) (Nf := 28) (ref := "BeepNetModel") hx hb hts hiX7 hown hK hP 0 rfl rfl 7 (by decide) k_1 rfl rfl dX7_soundsIn_6 ?_
  obtain ⟨hz1, h⟩ := nzx_s h
  refine lv_irem hx hb dX7_soundsIn_9 hz1 ?_
  obtain ⟨v2, ev2, hn3, h⟩ := ldx_s h
  refine ka_ild hx hb hK hP 1 0 ev2 rfl rfl hn3 dX7_soundsIn_10 ?_
  refine lv_iconst (v := -1) hx hb dX7_soundsIn_11 (by decide) ?_
  refine lv_icmp_ne (tgt := 22) hx hb dX7_soundsIn_12 (by decide) (fun c4 => ?_) (fun c4 => ?_)
  · have h := ifn c4 h
    refine lv_aload_n hx hb dX7_soundsIn_22 rfl (lv_at hl 0 rfl) ?_
    refine ka_get (v := .ref aM_round) (C := RX7) (T := TX7) (Nf := 28) (ref := "BeepNetModel") hx hb hts hiX7 hown hK hP 0 rfl rfl 8 (by decide) k_0 rfl rfl dX7_soundsIn_23 ?_
    refine lv_iload_n hx hb dX7_soundsIn_26 rfl (lv_at hl 1 rfl) ?_
    refine lv_aload_n hx hb dX7_soundsIn_27 rfl (lv_at hl 0 rfl) ?_
    refine ka_get (v := .int M_rounds) (C := RX7) (T := TX7) (Nf := 28) (ref := "BeepNetModel") hx hb hts hiX7 hown hK hP 0 rfl rfl 7 (by decide) k_1 rfl rfl dX7_soundsIn_28 ?_
    obtain ⟨hz5, h⟩ := nzx_s h
    refine lv_irem hx hb dX7_soundsIn_31 hz5 ?_
    obtain ⟨v6, ev6, hn7, h⟩ := ldx_s h
    refine ka_ild hx hb hK hP 1 0 ev6 rfl rfl hn7 dX7_soundsIn_32 ?_
    obtain rfl := sj1 h
    exact hret _ _ _ _ _ rfl rfl hP hD hS dX7_soundsIn_33
  · have h := ift c4 h
    refine lv_aload_n hx hb dX7_soundsIn_15 rfl (lv_at hl 0 rfl) ?_
    obtain ⟨r8, e9, h⟩ := bd1_s h
    refine kc_vi (rest := []) (wr := [(aM_round, .inl (cI, 20, .inl M_round))]) (wF := [(aM, .inr (7, [.int M_thrown, .int M_status, .ref aM_lane, .ref aM_many, .ref aM_item, .int M_posts, .ref aM_beside, .int M_rounds, .ref aM_round, .int M_read, .ref aM_reads, .ref aM_tape, .int M_taped, .int M_latest, .int M_length, .int M_at, .int M_sort, .int M_from, .int M_till, .int M_fault, .int M_faultAt, .ref aM_fewest, .ref aM_may, .ref aM_then, .ref aM_cases, .ref aM_next, .ref aM_trace, .int M_traced])), (aM_round, .inl (cI, 20, .inl M_round))]) ⟨hx, hb, hml, hown, hts⟩ (c_X7_all l dC dI cI cJ cZ cA aM aM_lane aM_many aM_item aM_beside aM_round aM_reads aM_tape aM_fewest aM_may aM_then aM_cases aM_next aM_trace M_thrown M_status M_posts M_rounds M_read M_taped M_latest M_length M_at M_sort M_from M_till M_fault M_faultAt M_traced r8 e9) (cwV 0 hts gX7_soundsIn_X7_all rfl rfl rfl (by decide +kernel) ⟨Nat.le_of_ble_eq_true rfl, Nat.le_of_ble_eq_true rfl⟩) hK hP hD hS hA [0] [1] [1, 0] 0 rfl rfl rfl rfl (by decide) rfl rfl rfl rfl rfl rfl hl.1 rfl (Nat.le_of_ble_eq_true rfl) dX7_soundsIn_16 ⟨Nat.zero_le _, Nat.zero_le _⟩ (fun H locs hP hD hS => ?_)
    refine lv_goto (tgt := 33) hx hb dX7_soundsIn_19 (by decide) ?_
    obtain rfl := sj1 h
    exact hret _ _ _ _ _ rfl rfl hP hD hS dX7_soundsIn_33
set_option maxHeartbeats 4000000 in
set_option maxRecDepth 100000 in
theorem c_X7_round (l : Launch) (dC : Nat → ClassId) (dI : Nat → Nat → Nat) (cI cJ cZ cA : ClassId) (aM aM_lane aM_many aM_item aM_beside aM_round aM_reads aM_tape aM_fewest aM_may aM_then aM_cases aM_next aM_trace : Nat) (M_thrown : Int32) (M_status : Int32) (M_posts : Int32) (M_rounds : Int32) (M_read : Int32) (M_taped : Int32) (M_latest : Int32) (M_length : Int32) (M_at : Int32) (M_sort : Int32) (M_from : Int32) (M_till : Int32) (M_fault : Int32) (M_faultAt : Int32) (M_traced : Int32) (M_round : Nat → Int32) (p0 : Int32) (rr : Int32) (M_thrown_z : Int32) (h : fX7_round M_thrown M_posts M_rounds M_round p0 = some (rr, M_thrown_z)) : Cti l yX7_round wsX7_round rmX7_round (dC, dI) (tyL cI cJ cZ cA) [(aM, .inr (7, [.int M_thrown, .int M_status, .ref aM_lane, .ref aM_many, .ref aM_item, .int M_posts, .ref aM_beside, .int M_rounds, .ref aM_round, .int M_read, .ref aM_reads, .ref aM_tape, .int M_taped, .int M_latest, .int M_length, .int M_at, .int M_sort, .int M_from, .int M_till, .int M_fault, .int M_faultAt, .ref aM_fewest, .ref aM_may, .ref aM_then, .ref aM_cases, .ref aM_next, .ref aM_trace, .int M_traced])), (aM_round, .inl (cI, 20, .inl M_round))] [(aM, .inr (7, [.int M_thrown_z, .int M_status, .ref aM_lane, .ref aM_many, .ref aM_item, .int M_posts, .ref aM_beside, .int M_rounds, .ref aM_round, .int M_read, .ref aM_reads, .ref aM_tape, .int M_taped, .int M_latest, .int M_length, .int M_at, .int M_sort, .int M_from, .int M_till, .int M_fault, .int M_faultAt, .ref aM_fewest, .ref aM_may, .ref aM_then, .ref aM_cases, .ref aM_next, .ref aM_trace, .int M_traced])), (aM_round, .inl (cI, 20, .inl M_round))] [.ref aM, .int p0] rr := by
  refine ct_int (ty := .int) (cc := cX7_round) (maxL := 2) (by decide) rfl (Nat.le_of_ble_eq_true rfl) ?_
  intro p e s m args below meth c A Q ls hx hb hml hown hts hA hK hP hD hS hl hret
  have hl : lv_has ls 2 [(0, .ref aM), (1, .int p0)] := hl
  have k_0 := hts (.fieldLink RX7 51 "BeepNetModel" "thrown" "I") (by decide +kernel)
  have k_1 := hts (.fieldLink RX7 187 "BeepNetModel" "rounds" "I") (by decide +kernel)
  have k_2 := hts (.constant RX7 86 (-1000000)) (by decide +kernel)
  have hiX7 : ∀ w ∈ u_ws RX7 TX7 28, w ∈ wsX7_round := fun w hw => List.mem_cons_of_mem _ (List.mem_append_right _ hw)
  unfold fX7_round at h
  refine lv_aload_n hx hb dX7_round_0 rfl (lv_at hl 0 rfl) ?_
  refine lv_iconst (v := 0) hx hb dX7_round_1 (by decide) ?_
  refine ka_put (w1 := [(aM, .inr (7, [.int 0, .int M_status, .ref aM_lane, .ref aM_many, .ref aM_item, .int M_posts, .ref aM_beside, .int M_rounds, .ref aM_round, .int M_read, .ref aM_reads, .ref aM_tape, .int M_taped, .int M_latest, .int M_length, .int M_at, .int M_sort, .int M_from, .int M_till, .int M_fault, .int M_faultAt, .ref aM_fewest, .ref aM_may, .ref aM_then, .ref aM_cases, .ref aM_next, .ref aM_trace, .int M_traced])), (aM_round, .inl (cI, 20, .inl M_round))]) (C := RX7) (T := TX7) (Nf := 28) (ref := "BeepNetModel") hx hb hts hiX7 tyX7 tyX7_ok nmX7 hown hK hP hD hS 0 rfl rfl 0 (by decide) k_0 rfl rfl rfl (Nat.le_of_ble_eq_true rfl) dX7_round_2 rfl (fun H locs hP hD hS => ?_)
  refine lv_iload_n hx hb dX7_round_5 rfl (lv_at hl 1 rfl) ?_
  refine lv_i2l hx hb dX7_round_6 rfl ?_
  refine lv_lconst (v := 0) hx hb dX7_round_7 (by decide) ?_
  refine lv_aload_n hx hb dX7_round_8 rfl (lv_at hl 0 rfl) ?_
  refine ka_get (v := .int M_rounds) (C := RX7) (T := TX7) (Nf := 28) (ref := "BeepNetModel") hx hb hts hiX7 hown hK hP 0 rfl rfl 7 (by decide) k_1 rfl rfl dX7_round_9 ?_
  refine lv_iconst (v := 1) hx hb dX7_round_12 (by decide) ?_
  refine lv_isub hx hb dX7_round_13 ?_
  refine lv_i2l hx hb dX7_round_14 rfl ?_
  obtain ⟨r1, e2, h⟩ := bd1_s h
  refine kc_si (rest := []) (wr := [(aM, .inr (7, [.int 0, .int M_status, .ref aM_lane, .ref aM_many, .ref aM_item, .int M_posts, .ref aM_beside, .int M_rounds, .ref aM_round, .int M_read, .ref aM_reads, .ref aM_tape, .int M_taped, .int M_latest, .int M_length, .int M_at, .int M_sort, .int M_from, .int M_till, .int M_fault, .int M_faultAt, .ref aM_fewest, .ref aM_may, .ref aM_then, .ref aM_cases, .ref aM_next, .ref aM_trace, .int M_traced])), (aM_round, .inl (cI, 20, .inl M_round))]) (wF := [(aM, .inr (7, [.int 0, .int M_status, .ref aM_lane, .ref aM_many, .ref aM_item, .int M_posts, .ref aM_beside, .int M_rounds, .ref aM_round, .int M_read, .ref aM_reads, .ref aM_tape, .int M_taped, .int M_latest, .int M_length, .int M_at, .int M_sort, .int M_from, .int M_till, .int M_fault, .int M_faultAt, .ref aM_fewest, .ref aM_may, .ref aM_then, .ref aM_cases, .ref aM_next, .ref aM_trace, .int M_traced])), (aM_round, .inl (cI, 20, .inl M_round))]) ⟨hx, hb, hml, hown, hts⟩ (c_X7_in l dC dI cI cJ cZ cA p0.toInt64 0 ((M_rounds - (1 : Int32)).toInt64) r1 e2) (va_cwS 3 hts gX7_round_X7_in rfl rfl rfl (by decide +kernel) ⟨Nat.le_of_ble_eq_true rfl, Nat.le_of_ble_eq_true rfl⟩) hK hP hD hS hA [] [0, 1] [0, 1] rfl rfl rfl rfl (by decide) rfl rfl rfl hl.1 rfl (Nat.le_of_ble_eq_true rfl) dX7_round_15 ⟨Nat.zero_le _, Nat.zero_le _⟩ (fun H locs hP hD hS => ?_)
  refine lv_if_eq (tgt := 29) hx hb dX7_round_18 (by decide) (fun c3 => ?_) (fun c3 => ?_)
  · have h := ift c3 h
    refine lv_ldc hx hb hown k_2 dX7_round_29 ?_
    obtain ⟨rfl, rfl⟩ := sj2 h
    exact hret _ _ _ _ _ rfl rfl hP hD hS dX7_round_31
  · have h := ifn c3 h
    refine lv_aload_n hx hb dX7_round_21 rfl (lv_at hl 0 rfl) ?_
    refine lv_iload_n hx hb dX7_round_22 rfl (lv_at hl 1 rfl) ?_
    obtain ⟨r4, e5, h⟩ := bd1_s h
    refine kc_vi (rest := []) (wr := []) (wF := [(aM, .inr (7, [.int 0, .int M_status, .ref aM_lane, .ref aM_many, .ref aM_item, .int M_posts, .ref aM_beside, .int M_rounds, .ref aM_round, .int M_read, .ref aM_reads, .ref aM_tape, .int M_taped, .int M_latest, .int M_length, .int M_at, .int M_sort, .int M_from, .int M_till, .int M_fault, .int M_faultAt, .ref aM_fewest, .ref aM_may, .ref aM_then, .ref aM_cases, .ref aM_next, .ref aM_trace, .int M_traced])), (aM_round, .inl (cI, 20, .inl M_round))]) ⟨hx, hb, hml, hown, hts⟩ (c_X7_soundsIn l dC dI cI cJ cZ cA aM aM_lane aM_many aM_item aM_beside aM_round aM_reads aM_tape aM_fewest aM_may aM_then aM_cases aM_next aM_trace 0 M_status M_posts M_rounds M_read M_taped M_latest M_length M_at M_sort M_from M_till M_fault M_faultAt M_traced M_round p0 r4 e5) (cwV 1 hts gX7_round_X7_soundsIn rfl rfl rfl (by decide +kernel) ⟨Nat.le_of_ble_eq_true rfl, Nat.le_of_ble_eq_true rfl⟩) hK hP hD hS hA [0, 1] [] [0, 1] 0 rfl rfl rfl rfl (by decide) rfl rfl rfl rfl rfl rfl hl.1 rfl (Nat.le_of_ble_eq_true rfl) dX7_round_23 ⟨Nat.zero_le _, Nat.zero_le _⟩ (fun H locs hP hD hS => ?_)
    refine lv_goto (tgt := 31) hx hb dX7_round_26 (by decide) ?_
    obtain ⟨rfl, rfl⟩ := sj2 h
    exact hret _ _ _ _ _ rfl rfl hP hD hS dX7_round_31
set_option maxHeartbeats 4000000 in
set_option maxRecDepth 100000 in
theorem c_X7_run (l : Launch) (dC : Nat → ClassId) (dI : Nat → Nat → Nat) (cI cJ cZ cA : ClassId) (aM aM_lane aM_many aM_item aM_beside aM_round aM_reads aM_tape aM_fewest aM_may aM_then aM_cases aM_next aM_trace : Nat) (M_thrown : Int32) (M_status : Int32) (M_posts : Int32) (M_rounds : Int32) (M_read : Int32) (M_taped : Int32) (M_latest : Int32) (M_length : Int32) (M_at : Int32) (M_sort : Int32) (M_from : Int32) (M_till : Int32) (M_fault : Int32) (M_faultAt : Int32) (M_traced : Int32) (M_beside : Nat → Int32) (M_round : Nat → Int32) (p0 : Int32) (p1 : Int32) (p2 : Int32) (rr : Int32) (M_thrown_z : Int32) (h : fX7_run M_thrown M_posts M_rounds M_beside M_round p0 p1 p2 = some (rr, M_thrown_z)) : Cti l yX7_run wsX7_run rmX7_run (dC, dI) (tyL cI cJ cZ cA) [(aM, .inr (7, [.int M_thrown, .int M_status, .ref aM_lane, .ref aM_many, .ref aM_item, .int M_posts, .ref aM_beside, .int M_rounds, .ref aM_round, .int M_read, .ref aM_reads, .ref aM_tape, .int M_taped, .int M_latest, .int M_length, .int M_at, .int M_sort, .int M_from, .int M_till, .int M_fault, .int M_faultAt, .ref aM_fewest, .ref aM_may, .ref aM_then, .ref aM_cases, .ref aM_next, .ref aM_trace, .int M_traced])), (aM_beside, .inl (cI, 8, .inl M_beside)), (aM_round, .inl (cI, 20, .inl M_round))] [(aM, .inr (7, [.int M_thrown_z, .int M_status, .ref aM_lane, .ref aM_many, .ref aM_item, .int M_posts, .ref aM_beside, .int M_rounds, .ref aM_round, .int M_read, .ref aM_reads, .ref aM_tape, .int M_taped, .int M_latest, .int M_length, .int M_at, .int M_sort, .int M_from, .int M_till, .int M_fault, .int M_faultAt, .ref aM_fewest, .ref aM_may, .ref aM_then, .ref aM_cases, .ref aM_next, .ref aM_trace, .int M_traced])), (aM_beside, .inl (cI, 8, .inl M_beside)), (aM_round, .inl (cI, 20, .inl M_round))] [.ref aM, .int p0, .int p1, .int p2] rr := by
  refine ct_int (ty := .int) (cc := cX7_run) (maxL := 6) (by decide) rfl (Nat.le_of_ble_eq_true rfl) ?_
  intro p e s m args below meth c A Q ls hx hb hml hown hts hA hK hP hD hS hl hret
  have hl : lv_has ls 6 [(0, .ref aM), (1, .int p0), (2, .int p1), (3, .int p2)] := hl
  have k_0 := hts (.fieldLink RX7 51 "BeepNetModel" "thrown" "I") (by decide +kernel)
  have k_1 := hts (.constant RX7 71 (-1000001)) (by decide +kernel)
  have k_2 := hts (.constantLong RX7 193 (60)) (by decide +kernel)
  have k_3 := hts (.fieldLink RX7 187 "BeepNetModel" "rounds" "I") (by decide +kernel)
  have k_4 := hts (.constant RX7 195 (-1000002)) (by decide +kernel)
  have hiX7 : ∀ w ∈ u_ws RX7 TX7 28, w ∈ wsX7_run := fun w hw => List.mem_cons_of_mem _ (List.mem_append_right _ hw)
  have hC53 : ∀ (n : Nat) (M_thrown : Int32) (x1 : Int32) (x3 : Int32) (x4 : Int32) (x5 : Int32) (H : Heap) (locs : List Loc) (ls : Array Slot), fX7_run_c53 M_posts M_rounds M_beside M_round n M_thrown x1 x3 x4 x5 = some (rr, M_thrown_z) → va_P (dC, dI) vwCl [(aM, .inr (7, [.int M_thrown, .int M_status, .ref aM_lane, .ref aM_many, .ref aM_item, .int M_posts, .ref aM_beside, .int M_rounds, .ref aM_round, .int M_read, .ref aM_reads, .ref aM_tape, .int M_taped, .int M_latest, .int M_length, .int M_at, .int M_sort, .int M_from, .int M_till, .int M_fault, .int M_faultAt, .ref aM_fewest, .ref aM_may, .ref aM_then, .ref aM_cases, .ref aM_next, .ref aM_trace, .int M_traced])), (aM_beside, .inl (cI, 8, .inl M_beside)), (aM_round, .inl (cI, 20, .inl M_round))] H → va_D A [(aM, .inr (7, [.int M_thrown, .int M_status, .ref aM_lane, .ref aM_many, .ref aM_item, .int M_posts, .ref aM_beside, .int M_rounds, .ref aM_round, .int M_read, .ref aM_reads, .ref aM_tape, .int M_taped, .int M_latest, .int M_length, .int M_at, .int M_sort, .int M_from, .int M_till, .int M_fault, .int M_faultAt, .ref aM_fewest, .ref aM_may, .ref aM_then, .ref aM_cases, .ref aM_next, .ref aM_trace, .int M_traced])), (aM_beside, .inl (cI, 8, .inl M_beside)), (aM_round, .inl (cI, 20, .inl M_round))] → va_S A s.heap H locs → lv_has ls 6 [(0, .ref aM), (1, .int x1), (3, .int x3), (4, .int x4), (5, .int x5)] → W p l e rmX7_run s m args below meth c H locs 0 0 Q (F0 m 53 ls []) := by
    intro n
    induction n with
    | zero => intro M_thrown x1 x3 x4 x5 H locs ls h; rw [fX7_run_c53] at h; cases h
    | succ n53 ih53 =>
      intro M_thrown x1 x3 x4 x5 H locs ls h hP hD hS hl
      rw [fX7_run_c53] at h
      refine lv_iload hx hb dX7_run_53 (lv_at hl 4 rfl) ?_
      refine lv_iload_n hx hb dX7_run_55 rfl (lv_at hl 2 rfl) ?_
      refine lv_icmp_ge (tgt := 80) hx hb dX7_run_56 (by decide) (fun c5401 => ?_) (fun c5401 => ?_)
      · have h := ift c5401 h
        refine lv_iload hx hb dX7_run_80 (lv_at hl 3 rfl) ?_
        obtain ⟨rfl, rfl⟩ := sj2 h
        exact hret _ _ _ _ _ rfl rfl hP hD hS dX7_run_82
      · have h := ifn c5401 h
        refine lv_aload_n hx hb dX7_run_59 rfl (lv_at hl 0 rfl) ?_
        refine lv_iload_n hx hb dX7_run_60 rfl (lv_at hl 1 rfl) ?_
        refine lv_iload hx hb dX7_run_61 (lv_at hl 3 rfl) ?_
        refine lv_aload_n hx hb dX7_run_63 rfl (lv_at hl 0 rfl) ?_
        refine lv_iload hx hb dX7_run_64 (lv_at hl 4 rfl) ?_
        obtain ⟨r5402, e5403, h⟩ := bd1_s h
        refine kc_vi (rest := [.int x4, .int x1, .ref aM]) (wr := [(aM_beside, .inl (cI, 8, .inl M_beside))]) (wF := [(aM, .inr (7, [.int M_thrown, .int M_status, .ref aM_lane, .ref aM_many, .ref aM_item, .int M_posts, .ref aM_beside, .int M_rounds, .ref aM_round, .int M_read, .ref aM_reads, .ref aM_tape, .int M_taped, .int M_latest, .int M_length, .int M_at, .int M_sort, .int M_from, .int M_till, .int M_fault, .int M_faultAt, .ref aM_fewest, .ref aM_may, .ref aM_then, .ref aM_cases, .ref aM_next, .ref aM_trace, .int M_traced])), (aM_beside, .inl (cI, 8, .inl M_beside)), (aM_round, .inl (cI, 20, .inl M_round))]) ⟨hx, hb, hml, hown, hts⟩ (c_X7_soundsIn l dC dI cI cJ cZ cA aM aM_lane aM_many aM_item aM_beside aM_round aM_reads aM_tape aM_fewest aM_may aM_then aM_cases aM_next aM_trace M_thrown M_status M_posts M_rounds M_read M_taped M_latest M_length M_at M_sort M_from M_till M_fault M_faultAt M_traced M_round x5 r5402 e5403) (cwV 1 hts gX7_run_X7_soundsIn rfl rfl rfl (by decide +kernel) ⟨Nat.le_of_ble_eq_true rfl, Nat.le_of_ble_eq_true rfl⟩) hK hP hD hS hA [0, 2] [1] [1, 0, 2] 0 rfl rfl rfl rfl (by decide) rfl rfl rfl rfl rfl rfl hl.1 rfl (Nat.le_of_ble_eq_true rfl) dX7_run_66 ⟨Nat.zero_le _, Nat.zero_le _⟩ (fun H locs hP hD hS => ?_)
        obtain ⟨r5404, e5405, h⟩ := bd1_s h
        refine kc_vi (rest := []) (wr := [(aM_round, .inl (cI, 20, .inl M_round))]) (wF := [(aM, .inr (7, [.int M_thrown, .int M_status, .ref aM_lane, .ref aM_many, .ref aM_item, .int M_posts, .ref aM_beside, .int M_rounds, .ref aM_round, .int M_read, .ref aM_reads, .ref aM_tape, .int M_taped, .int M_latest, .int M_length, .int M_at, .int M_sort, .int M_from, .int M_till, .int M_fault, .int M_faultAt, .ref aM_fewest, .ref aM_may, .ref aM_then, .ref aM_cases, .ref aM_next, .ref aM_trace, .int M_traced])), (aM_beside, .inl (cI, 8, .inl M_beside)), (aM_round, .inl (cI, 20, .inl M_round))]) ⟨hx, hb, hml, hown, hts⟩ (c_X7_spread l dC dI cI cJ cZ cA aM aM_lane aM_many aM_item aM_beside aM_round aM_reads aM_tape aM_fewest aM_may aM_then aM_cases aM_next aM_trace M_thrown M_status M_posts M_rounds M_read M_taped M_latest M_length M_at M_sort M_from M_till M_fault M_faultAt M_traced M_beside x1 x4 r5402 r5404 e5405) (cwV 3 hts gX7_run_X7_spread rfl rfl rfl (by decide +kernel) ⟨Nat.le_of_ble_eq_true rfl, Nat.le_of_ble_eq_true rfl⟩) hK hP hD hS hA [0, 1] [2] [1, 2, 0] 0 rfl rfl rfl rfl (by decide) rfl rfl rfl rfl rfl rfl hl.1 rfl (Nat.le_of_ble_eq_true rfl) dX7_run_69 ⟨Nat.zero_le _, Nat.zero_le _⟩ (fun H locs hP hD hS => ?_)
        refine lv_istore (lv' := [(4, .int r5404), (0, .ref aM), (1, .int x1), (3, .int x3), (5, .int x5)]) hx hb dX7_run_72 hl (by decide) rfl (fun ls hl => ?_)
        refine lv_iinc (v := x5 + 1) (lv' := [(5, .int (x5 + 1)), (4, .int r5404), (0, .ref aM), (1, .int x1), (3, .int x3)]) hx hb dX7_run_74 hl (k := 4) rfl rfl (by decide) rfl (fun ls hl => ?_)
        refine lv_goto (tgt := 53) hx hb dX7_run_77 (by decide) ?_
        exact ih53 M_thrown x1 x3 r5404 (x5 + 1) _ _ _ h hP hD hS (lv_sub hl [2, 3, 4, 1, 0] rfl)
  unfold fX7_run at h
  refine lv_aload_n hx hb dX7_run_0 rfl (lv_at hl 0 rfl) ?_
  refine lv_iconst (v := 0) hx hb dX7_run_1 (by decide) ?_
  refine ka_put (w1 := [(aM, .inr (7, [.int 0, .int M_status, .ref aM_lane, .ref aM_many, .ref aM_item, .int M_posts, .ref aM_beside, .int M_rounds, .ref aM_round, .int M_read, .ref aM_reads, .ref aM_tape, .int M_taped, .int M_latest, .int M_length, .int M_at, .int M_sort, .int M_from, .int M_till, .int M_fault, .int M_faultAt, .ref aM_fewest, .ref aM_may, .ref aM_then, .ref aM_cases, .ref aM_next, .ref aM_trace, .int M_traced])), (aM_beside, .inl (cI, 8, .inl M_beside)), (aM_round, .inl (cI, 20, .inl M_round))]) (C := RX7) (T := TX7) (Nf := 28) (ref := "BeepNetModel") hx hb hts hiX7 tyX7 tyX7_ok nmX7 hown hK hP hD hS 0 rfl rfl 0 (by decide) k_0 rfl rfl rfl (Nat.le_of_ble_eq_true rfl) dX7_run_2 rfl (fun H locs hP hD hS => ?_)
  refine lv_iload_n hx hb dX7_run_5 rfl (lv_at hl 1 rfl) ?_
  obtain ⟨r1, e2, h⟩ := bd1_s h
  refine kc_si (rest := []) (wr := [(aM, .inr (7, [.int 0, .int M_status, .ref aM_lane, .ref aM_many, .ref aM_item, .int M_posts, .ref aM_beside, .int M_rounds, .ref aM_round, .int M_read, .ref aM_reads, .ref aM_tape, .int M_taped, .int M_latest, .int M_length, .int M_at, .int M_sort, .int M_from, .int M_till, .int M_fault, .int M_faultAt, .ref aM_fewest, .ref aM_may, .ref aM_then, .ref aM_cases, .ref aM_next, .ref aM_trace, .int M_traced])), (aM_beside, .inl (cI, 8, .inl M_beside)), (aM_round, .inl (cI, 20, .inl M_round))]) (wF := [(aM, .inr (7, [.int 0, .int M_status, .ref aM_lane, .ref aM_many, .ref aM_item, .int M_posts, .ref aM_beside, .int M_rounds, .ref aM_round, .int M_read, .ref aM_reads, .ref aM_tape, .int M_taped, .int M_latest, .int M_length, .int M_at, .int M_sort, .int M_from, .int M_till, .int M_fault, .int M_faultAt, .ref aM_fewest, .ref aM_may, .ref aM_then, .ref aM_cases, .ref aM_next, .ref aM_trace, .int M_traced])), (aM_beside, .inl (cI, 8, .inl M_beside)), (aM_round, .inl (cI, 20, .inl M_round))]) ⟨hx, hb, hml, hown, hts⟩ (c_X7_isHearing l dC dI cI cJ cZ cA p0 r1 e2) (va_cwS 1 hts gX7_run_X7_isHearing rfl rfl rfl (by decide +kernel) ⟨Nat.le_of_ble_eq_true rfl, Nat.le_of_ble_eq_true rfl⟩) hK hP hD hS hA [] [0, 1, 2] [0, 1, 2] rfl rfl rfl rfl (by decide) rfl rfl rfl hl.1 rfl (Nat.le_of_ble_eq_true rfl) dX7_run_6 ⟨Nat.zero_le _, Nat.zero_le _⟩ (fun H locs hP hD hS => ?_)
  refine lv_if_eq (tgt := 32) hx hb dX7_run_9 (by decide) (fun c3 => ?_) (fun c3 => ?_)
  · have h := ift c3 h
    refine lv_ldc hx hb hown k_1 dX7_run_32 ?_
    obtain ⟨rfl, rfl⟩ := sj2 h
    exact hret _ _ _ _ _ rfl rfl hP hD hS dX7_run_34
  · have h := ifn c3 h
    refine lv_aload_n hx hb dX7_run_12 rfl (lv_at hl 0 rfl) ?_
    refine lv_iload_n hx hb dX7_run_13 rfl (lv_at hl 2 rfl) ?_
    obtain ⟨r4, e5, h⟩ := bd1_s h
    refine kc_vi (rest := []) (wr := [(aM_beside, .inl (cI, 8, .inl M_beside)), (aM_round, .inl (cI, 20, .inl M_round))]) (wF := [(aM, .inr (7, [.int 0, .int M_status, .ref aM_lane, .ref aM_many, .ref aM_item, .int M_posts, .ref aM_beside, .int M_rounds, .ref aM_round, .int M_read, .ref aM_reads, .ref aM_tape, .int M_taped, .int M_latest, .int M_length, .int M_at, .int M_sort, .int M_from, .int M_till, .int M_fault, .int M_faultAt, .ref aM_fewest, .ref aM_may, .ref aM_then, .ref aM_cases, .ref aM_next, .ref aM_trace, .int M_traced])), (aM_beside, .inl (cI, 8, .inl M_beside)), (aM_round, .inl (cI, 20, .inl M_round))]) ⟨hx, hb, hml, hown, hts⟩ (c_X7_isPost l dC dI cI cJ cZ cA aM aM_lane aM_many aM_item aM_beside aM_round aM_reads aM_tape aM_fewest aM_may aM_then aM_cases aM_next aM_trace 0 M_status M_posts M_rounds M_read M_taped M_latest M_length M_at M_sort M_from M_till M_fault M_faultAt M_traced p1 r4 e5) (cwV 1 hts gX7_run_X7_isPost rfl rfl rfl (by decide +kernel) ⟨Nat.le_of_ble_eq_true rfl, Nat.le_of_ble_eq_true rfl⟩) hK hP hD hS hA [0] [1, 2] [2, 0, 1] 0 rfl rfl rfl rfl (by decide) rfl rfl rfl rfl rfl rfl hl.1 rfl (Nat.le_of_ble_eq_true rfl) dX7_run_14 ⟨Nat.zero_le _, Nat.zero_le _⟩ (fun H locs hP hD hS => ?_)
    refine lv_if_eq (tgt := 32) hx hb dX7_run_17 (by decide) (fun c6 => ?_) (fun c6 => ?_)
    · have h := ift c6 h
      refine lv_ldc hx hb hown k_1 dX7_run_32 ?_
      obtain ⟨rfl, rfl⟩ := sj2 h
      exact hret _ _ _ _ _ rfl rfl hP hD hS dX7_run_34
    · have h := ifn c6 h
      refine lv_iload_n hx hb dX7_run_20 rfl (lv_at hl 3 rfl) ?_
      refine lv_i2l hx hb dX7_run_21 rfl ?_
      refine lv_lconst (v := 0) hx hb dX7_run_22 (by decide) ?_
      refine lv_ldc2 hx hb hown k_2 dX7_run_23 ?_
      obtain ⟨r7, e8, h⟩ := bd1_s h
      refine kc_si (rest := []) (wr := [(aM, .inr (7, [.int 0, .int M_status, .ref aM_lane, .ref aM_many, .ref aM_item, .int M_posts, .ref aM_beside, .int M_rounds, .ref aM_round, .int M_read, .ref aM_reads, .ref aM_tape, .int M_taped, .int M_latest, .int M_length, .int M_at, .int M_sort, .int M_from, .int M_till, .int M_fault, .int M_faultAt, .ref aM_fewest, .ref aM_may, .ref aM_then, .ref aM_cases, .ref aM_next, .ref aM_trace, .int M_traced])), (aM_beside, .inl (cI, 8, .inl M_beside)), (aM_round, .inl (cI, 20, .inl M_round))]) (wF := [(aM, .inr (7, [.int 0, .int M_status, .ref aM_lane, .ref aM_many, .ref aM_item, .int M_posts, .ref aM_beside, .int M_rounds, .ref aM_round, .int M_read, .ref aM_reads, .ref aM_tape, .int M_taped, .int M_latest, .int M_length, .int M_at, .int M_sort, .int M_from, .int M_till, .int M_fault, .int M_faultAt, .ref aM_fewest, .ref aM_may, .ref aM_then, .ref aM_cases, .ref aM_next, .ref aM_trace, .int M_traced])), (aM_beside, .inl (cI, 8, .inl M_beside)), (aM_round, .inl (cI, 20, .inl M_round))]) ⟨hx, hb, hml, hown, hts⟩ (c_X7_in l dC dI cI cJ cZ cA p2.toInt64 0 60 r7 e8) (va_cwS 3 hts gX7_run_X7_in rfl rfl rfl (by decide +kernel) ⟨Nat.le_of_ble_eq_true rfl, Nat.le_of_ble_eq_true rfl⟩) hK hP hD hS hA [] [0, 1, 2] [0, 1, 2] rfl rfl rfl rfl (by decide) rfl rfl rfl hl.1 rfl (Nat.le_of_ble_eq_true rfl) dX7_run_26 ⟨Nat.zero_le _, Nat.zero_le _⟩ (fun H locs hP hD hS => ?_)
      refine lv_if_ne (tgt := 35) hx hb dX7_run_29 (by decide) (fun c9 => ?_) (fun c9 => ?_)
      · have h := ifn c9 h
        refine lv_aload_n hx hb dX7_run_35 rfl (lv_at hl 0 rfl) ?_
        refine ka_get (v := .int M_rounds) (C := RX7) (T := TX7) (Nf := 28) (ref := "BeepNetModel") hx hb hts hiX7 hown hK hP 0 rfl rfl 7 (by decide) k_3 rfl rfl dX7_run_36 ?_
        refine lv_if_ne (tgt := 45) hx hb dX7_run_39 (by decide) (fun c10 => ?_) (fun c10 => ?_)
        · have h := ifn c10 h
          refine lv_iconst (v := 1) hx hb dX7_run_45 (by decide) ?_
          refine lv_iload_n hx hb dX7_run_46 rfl (lv_at hl 2 rfl) ?_
          refine lv_ishl hx hb dX7_run_47 ?_
          obtain ⟨v11, ev11, h⟩ := bnd_s h
          refine kn_i ev11 ?_
          refine lv_istore (lv' := [(4, .int v11), (0, .ref aM), (1, .int p0), (2, .int p1), (3, .int p2)]) hx hb dX7_run_48 hl (by decide) rfl (fun ls hl => ?_)
          refine lv_iconst (v := 0) hx hb dX7_run_50 (by decide) ?_
          refine lv_istore (lv' := [(5, .int 0), (4, .int v11), (0, .ref aM), (1, .int p0), (2, .int p1), (3, .int p2)]) hx hb dX7_run_51 hl (by decide) rfl (fun ls hl => ?_)
          exact hC53 FU 0 p0 p2 v11 0 _ _ _ h hP hD hS (lv_sub hl [2, 3, 5, 1, 0] rfl)
        · have h := ift c10 h
          refine lv_ldc hx hb hown k_4 dX7_run_42 ?_
          obtain ⟨rfl, rfl⟩ := sj2 h
          exact hret _ _ _ _ _ rfl rfl hP hD hS dX7_run_44
      · have h := ift c9 h
        refine lv_ldc hx hb hown k_1 dX7_run_32 ?_
        obtain ⟨rfl, rfl⟩ := sj2 h
        exact hret _ _ _ _ _ rfl rfl hP hD hS dX7_run_34
set_option maxHeartbeats 4000000 in
set_option maxRecDepth 100000 in
theorem c_X7_findFewest (l : Launch) (dC : Nat → ClassId) (dI : Nat → Nat → Nat) (cI cJ cZ cA : ClassId) (aM aM_lane aM_many aM_item aM_beside aM_round aM_reads aM_tape aM_fewest aM_may aM_then aM_cases aM_next aM_trace : Nat) (M_thrown : Int32) (M_status : Int32) (M_posts : Int32) (M_rounds : Int32) (M_read : Int32) (M_taped : Int32) (M_latest : Int32) (M_length : Int32) (M_at : Int32) (M_sort : Int32) (M_from : Int32) (M_till : Int32) (M_fault : Int32) (M_faultAt : Int32) (M_traced : Int32) (M_beside : Nat → Int32) (M_fewest : Nat → Int32) (p0 : Int32) (p1 : Int32) (M_fewest_z : Nat → Int32) (h : fX7_findFewest M_posts M_beside M_fewest p0 p1 = some M_fewest_z) : Ctv l yX7_findFewest wsX7_findFewest rmX7_findFewest (dC, dI) (tyL cI cJ cZ cA) [(aM, .inr (7, [.int M_thrown, .int M_status, .ref aM_lane, .ref aM_many, .ref aM_item, .int M_posts, .ref aM_beside, .int M_rounds, .ref aM_round, .int M_read, .ref aM_reads, .ref aM_tape, .int M_taped, .int M_latest, .int M_length, .int M_at, .int M_sort, .int M_from, .int M_till, .int M_fault, .int M_faultAt, .ref aM_fewest, .ref aM_may, .ref aM_then, .ref aM_cases, .ref aM_next, .ref aM_trace, .int M_traced])), (aM_beside, .inl (cI, 8, .inl M_beside)), (aM_fewest, .inl (cI, 256, .inl M_fewest))] [(aM, .inr (7, [.int M_thrown, .int M_status, .ref aM_lane, .ref aM_many, .ref aM_item, .int M_posts, .ref aM_beside, .int M_rounds, .ref aM_round, .int M_read, .ref aM_reads, .ref aM_tape, .int M_taped, .int M_latest, .int M_length, .int M_at, .int M_sort, .int M_from, .int M_till, .int M_fault, .int M_faultAt, .ref aM_fewest, .ref aM_may, .ref aM_then, .ref aM_cases, .ref aM_next, .ref aM_trace, .int M_traced])), (aM_beside, .inl (cI, 8, .inl M_beside)), (aM_fewest, .inl (cI, 256, .inl M_fewest_z))] [.ref aM, .int p0, .int p1] := by
  refine ct_void (cc := cX7_findFewest) (maxL := 7) (by decide) rfl (Nat.le_of_ble_eq_true rfl) ?_
  intro p e s m args below meth c A Q ls hx hb hml hown hts hA hK hP hD hS hl hret
  have hl : lv_has ls 7 [(0, .ref aM), (1, .int p0), (2, .int p1)] := hl
  have k_0 := hts (.fieldLink RX7 31 "BeepNetModel" "fewest" "[I") (by decide +kernel)
  have k_1 := hts (.constant RX7 86 (-1000000)) (by decide +kernel)
  have hiX7 : ∀ w ∈ u_ws RX7 TX7 28, w ∈ wsX7_findFewest := fun w hw => List.mem_cons_of_mem _ (List.mem_append_right _ hw)
  have hC34 : ∀ (n : Nat) (M_fewest : Nat → Int32) (x1 : Int32) (x2 : Int32) (x3 : Int32) (H : Heap) (locs : List Loc) (ls : Array Slot), fX7_findFewest_c34 M_posts M_beside n M_fewest x1 x2 x3 = some M_fewest_z → va_P (dC, dI) vwCl [(aM, .inr (7, [.int M_thrown, .int M_status, .ref aM_lane, .ref aM_many, .ref aM_item, .int M_posts, .ref aM_beside, .int M_rounds, .ref aM_round, .int M_read, .ref aM_reads, .ref aM_tape, .int M_taped, .int M_latest, .int M_length, .int M_at, .int M_sort, .int M_from, .int M_till, .int M_fault, .int M_faultAt, .ref aM_fewest, .ref aM_may, .ref aM_then, .ref aM_cases, .ref aM_next, .ref aM_trace, .int M_traced])), (aM_beside, .inl (cI, 8, .inl M_beside)), (aM_fewest, .inl (cI, 256, .inl M_fewest))] H → va_D A [(aM, .inr (7, [.int M_thrown, .int M_status, .ref aM_lane, .ref aM_many, .ref aM_item, .int M_posts, .ref aM_beside, .int M_rounds, .ref aM_round, .int M_read, .ref aM_reads, .ref aM_tape, .int M_taped, .int M_latest, .int M_length, .int M_at, .int M_sort, .int M_from, .int M_till, .int M_fault, .int M_faultAt, .ref aM_fewest, .ref aM_may, .ref aM_then, .ref aM_cases, .ref aM_next, .ref aM_trace, .int M_traced])), (aM_beside, .inl (cI, 8, .inl M_beside)), (aM_fewest, .inl (cI, 256, .inl M_fewest))] → va_S A s.heap H locs → lv_has ls 7 [(0, .ref aM), (1, .int x1), (2, .int x2), (3, .int x3)] → W p l e rmX7_findFewest s m args below meth c H locs 0 0 Q (F0 m 34 ls []) := by
    intro n
    induction n with
    | zero => intro M_fewest x1 x2 x3 H locs ls h; rw [fX7_findFewest_c34] at h; cases h
    | succ n34 ih34 =>
      have hC43 : ∀ (n : Nat) (M_fewest : Nat → Int32) (x1 : Int32) (x2 : Int32) (x3 : Int32) (x4 : Int32) (H : Heap) (locs : List Loc) (ls : Array Slot), fX7_findFewest_c43 M_posts M_beside (fX7_findFewest_c34 M_posts M_beside n34) n M_fewest x1 x2 x3 x4 = some M_fewest_z → va_P (dC, dI) vwCl [(aM, .inr (7, [.int M_thrown, .int M_status, .ref aM_lane, .ref aM_many, .ref aM_item, .int M_posts, .ref aM_beside, .int M_rounds, .ref aM_round, .int M_read, .ref aM_reads, .ref aM_tape, .int M_taped, .int M_latest, .int M_length, .int M_at, .int M_sort, .int M_from, .int M_till, .int M_fault, .int M_faultAt, .ref aM_fewest, .ref aM_may, .ref aM_then, .ref aM_cases, .ref aM_next, .ref aM_trace, .int M_traced])), (aM_beside, .inl (cI, 8, .inl M_beside)), (aM_fewest, .inl (cI, 256, .inl M_fewest))] H → va_D A [(aM, .inr (7, [.int M_thrown, .int M_status, .ref aM_lane, .ref aM_many, .ref aM_item, .int M_posts, .ref aM_beside, .int M_rounds, .ref aM_round, .int M_read, .ref aM_reads, .ref aM_tape, .int M_taped, .int M_latest, .int M_length, .int M_at, .int M_sort, .int M_from, .int M_till, .int M_fault, .int M_faultAt, .ref aM_fewest, .ref aM_may, .ref aM_then, .ref aM_cases, .ref aM_next, .ref aM_trace, .int M_traced])), (aM_beside, .inl (cI, 8, .inl M_beside)), (aM_fewest, .inl (cI, 256, .inl M_fewest))] → va_S A s.heap H locs → lv_has ls 7 [(0, .ref aM), (1, .int x1), (2, .int x2), (3, .int x3), (4, .int x4)] → W p l e rmX7_findFewest s m args below meth c H locs 0 0 Q (F0 m 43 ls []) := by
        intro n
        induction n with
        | zero => intro M_fewest x1 x2 x3 x4 H locs ls h; rw [fX7_findFewest_c43] at h; cases h
        | succ n43 ih43 =>
          have hC55 : ∀ (n : Nat) (M_fewest : Nat → Int32) (x1 : Int32) (x2 : Int32) (x3 : Int32) (x4 : Int32) (x5 : Int32) (H : Heap) (locs : List Loc) (ls : Array Slot), fX7_findFewest_c55 M_posts M_beside (fX7_findFewest_c34 M_posts M_beside n34) (fX7_findFewest_c43 M_posts M_beside (fX7_findFewest_c34 M_posts M_beside n34) n43) n M_fewest x1 x2 x3 x4 x5 = some M_fewest_z → va_P (dC, dI) vwCl [(aM, .inr (7, [.int M_thrown, .int M_status, .ref aM_lane, .ref aM_many, .ref aM_item, .int M_posts, .ref aM_beside, .int M_rounds, .ref aM_round, .int M_read, .ref aM_reads, .ref aM_tape, .int M_taped, .int M_latest, .int M_length, .int M_at, .int M_sort, .int M_from, .int M_till, .int M_fault, .int M_faultAt, .ref aM_fewest, .ref aM_may, .ref aM_then, .ref aM_cases, .ref aM_next, .ref aM_trace, .int M_traced])), (aM_beside, .inl (cI, 8, .inl M_beside)), (aM_fewest, .inl (cI, 256, .inl M_fewest))] H → va_D A [(aM, .inr (7, [.int M_thrown, .int M_status, .ref aM_lane, .ref aM_many, .ref aM_item, .int M_posts, .ref aM_beside, .int M_rounds, .ref aM_round, .int M_read, .ref aM_reads, .ref aM_tape, .int M_taped, .int M_latest, .int M_length, .int M_at, .int M_sort, .int M_from, .int M_till, .int M_fault, .int M_faultAt, .ref aM_fewest, .ref aM_may, .ref aM_then, .ref aM_cases, .ref aM_next, .ref aM_trace, .int M_traced])), (aM_beside, .inl (cI, 8, .inl M_beside)), (aM_fewest, .inl (cI, 256, .inl M_fewest))] → va_S A s.heap H locs → lv_has ls 7 [(0, .ref aM), (1, .int x1), (2, .int x2), (3, .int x3), (4, .int x4), (5, .int x5)] → W p l e rmX7_findFewest s m args below meth c H locs 0 0 Q (F0 m 55 ls []) := by
            intro n
            induction n with
            | zero => intro M_fewest x1 x2 x3 x4 x5 H locs ls h; rw [fX7_findFewest_c55] at h; cases h
            | succ n55 ih55 =>
              have hC119 : ∀ (M_fewest : Nat → Int32) (x1 : Int32) (x2 : Int32) (x4 : Int32) (x5 : Int32) (x6 : Int32) (H : Heap) (locs : List Loc) (ls : Array Slot), fX7_findFewest_c119 M_posts M_beside (fX7_findFewest_c34 M_posts M_beside n34) (fX7_findFewest_c43 M_posts M_beside (fX7_findFewest_c34 M_posts M_beside n34) n43) (fX7_findFewest_c55 M_posts M_beside (fX7_findFewest_c34 M_posts M_beside n34) (fX7_findFewest_c43 M_posts M_beside (fX7_findFewest_c34 M_posts M_beside n34) n43) n55) M_fewest x1 x2 x4 x5 x6 = some M_fewest_z → va_P (dC, dI) vwCl [(aM, .inr (7, [.int M_thrown, .int M_status, .ref aM_lane, .ref aM_many, .ref aM_item, .int M_posts, .ref aM_beside, .int M_rounds, .ref aM_round, .int M_read, .ref aM_reads, .ref aM_tape, .int M_taped, .int M_latest, .int M_length, .int M_at, .int M_sort, .int M_from, .int M_till, .int M_fault, .int M_faultAt, .ref aM_fewest, .ref aM_may, .ref aM_then, .ref aM_cases, .ref aM_next, .ref aM_trace, .int M_traced])), (aM_beside, .inl (cI, 8, .inl M_beside)), (aM_fewest, .inl (cI, 256, .inl M_fewest))] H → va_D A [(aM, .inr (7, [.int M_thrown, .int M_status, .ref aM_lane, .ref aM_many, .ref aM_item, .int M_posts, .ref aM_beside, .int M_rounds, .ref aM_round, .int M_read, .ref aM_reads, .ref aM_tape, .int M_taped, .int M_latest, .int M_length, .int M_at, .int M_sort, .int M_from, .int M_till, .int M_fault, .int M_faultAt, .ref aM_fewest, .ref aM_may, .ref aM_then, .ref aM_cases, .ref aM_next, .ref aM_trace, .int M_traced])), (aM_beside, .inl (cI, 8, .inl M_beside)), (aM_fewest, .inl (cI, 256, .inl M_fewest))] → va_S A s.heap H locs → lv_has ls 7 [(0, .ref aM), (1, .int x1), (2, .int x2), (4, .int x4), (5, .int x5), (6, .int x6)] → W p l e rmX7_findFewest s m args below meth c H locs 0 0 Q (F0 m 119 ls []) := by
                intro M_fewest x1 x2 x4 x5 x6 H locs ls h hP hD hS hl
                unfold fX7_findFewest_c119 at h
                refine lv_aload_n hx hb dX7_findFewest_119 rfl (lv_at hl 0 rfl) ?_
                refine ka_get (v := .ref aM_fewest) (C := RX7) (T := TX7) (Nf := 28) (ref := "BeepNetModel") hx hb hts hiX7 hown hK hP 0 rfl rfl 21 (by decide) k_0 rfl rfl dX7_findFewest_120 ?_
                refine lv_iload hx hb dX7_findFewest_123 (lv_at hl 3 rfl) ?_
                refine lv_iload hx hb dX7_findFewest_125 (lv_at hl 5 rfl) ?_
                refine lv_iconst (v := 1) hx hb dX7_findFewest_127 (by decide) ?_
                refine lv_iadd hx hb dX7_findFewest_128 ?_
                obtain ⟨g12001, eg12001, hn12002, h⟩ := sti_s h
                refine ka_ist (w1 := [(aM, .inr (7, [.int M_thrown, .int M_status, .ref aM_lane, .ref aM_many, .ref aM_item, .int M_posts, .ref aM_beside, .int M_rounds, .ref aM_round, .int M_read, .ref aM_reads, .ref aM_tape, .int M_taped, .int M_latest, .int M_length, .int M_at, .int M_sort, .int M_from, .int M_till, .int M_fault, .int M_faultAt, .ref aM_fewest, .ref aM_may, .ref aM_then, .ref aM_cases, .ref aM_next, .ref aM_trace, .int M_traced])), (aM_beside, .inl (cI, 8, .inl M_beside)), (aM_fewest, .inl (cI, 256, .inl g12001))]) hx hb hK hP hD hS 2 0 eg12001 rfl rfl hn12002 dX7_findFewest_129 rfl (fun H locs hP hD hS => ?_)
                refine lv_iconst (v := 1) hx hb dX7_findFewest_130 (by decide) ?_
                refine lv_istore_n (lv' := [(3, .int 1), (0, .ref aM), (1, .int x1), (2, .int x2), (4, .int x4), (5, .int x5), (6, .int x6)]) hx hb dX7_findFewest_131 rfl hl (by decide) rfl (fun ls hl => ?_)
                refine lv_iinc (v := x5 + 1) (lv' := [(5, .int (x5 + 1)), (3, .int 1), (0, .ref aM), (1, .int x1), (2, .int x2), (4, .int x4), (6, .int x6)]) hx hb dX7_findFewest_132 hl (k := 5) rfl rfl (by decide) rfl (fun ls hl => ?_)
                refine lv_goto (tgt := 55) hx hb dX7_findFewest_135 (by decide) ?_
                exact ih55 g12001 x1 x2 1 x4 (x5 + 1) _ _ _ h hP hD hS (lv_sub hl [2, 3, 4, 1, 5, 0] rfl)
              intro M_fewest x1 x2 x3 x4 x5 H locs ls h hP hD hS hl
              rw [fX7_findFewest_c55] at h
              refine lv_iload hx hb dX7_findFewest_55 (lv_at hl 5 rfl) ?_
              refine lv_aload_n hx hb dX7_findFewest_57 rfl (lv_at hl 0 rfl) ?_
              obtain ⟨r5601, e5602, h⟩ := bd1_s h
              refine kc_vi (rest := [.int x5]) (wr := [(aM_beside, .inl (cI, 8, .inl M_beside)), (aM_fewest, .inl (cI, 256, .inl M_fewest))]) (wF := [(aM, .inr (7, [.int M_thrown, .int M_status, .ref aM_lane, .ref aM_many, .ref aM_item, .int M_posts, .ref aM_beside, .int M_rounds, .ref aM_round, .int M_read, .ref aM_reads, .ref aM_tape, .int M_taped, .int M_latest, .int M_length, .int M_at, .int M_sort, .int M_from, .int M_till, .int M_fault, .int M_faultAt, .ref aM_fewest, .ref aM_may, .ref aM_then, .ref aM_cases, .ref aM_next, .ref aM_trace, .int M_traced])), (aM_beside, .inl (cI, 8, .inl M_beside)), (aM_fewest, .inl (cI, 256, .inl M_fewest))]) ⟨hx, hb, hml, hown, hts⟩ (c_X7_all l dC dI cI cJ cZ cA aM aM_lane aM_many aM_item aM_beside aM_round aM_reads aM_tape aM_fewest aM_may aM_then aM_cases aM_next aM_trace M_thrown M_status M_posts M_rounds M_read M_taped M_latest M_length M_at M_sort M_from M_till M_fault M_faultAt M_traced r5601 e5602) (cwV 0 hts gX7_findFewest_X7_all rfl rfl rfl (by decide +kernel) ⟨Nat.le_of_ble_eq_true rfl, Nat.le_of_ble_eq_true rfl⟩) hK hP hD hS hA [0] [1, 2] [2, 0, 1] 0 rfl rfl rfl rfl (by decide) rfl rfl rfl rfl rfl rfl hl.1 rfl (Nat.le_of_ble_eq_true rfl) dX7_findFewest_58 ⟨Nat.zero_le _, Nat.zero_le _⟩ (fun H locs hP hD hS => ?_)
              refine lv_icmp_gt (tgt := 138) hx hb dX7_findFewest_61 (by decide) (fun c5603 => ?_) (fun c5603 => ?_)
              · have h := ift c5603 h
                refine lv_iinc (v := x4 + 1) (lv' := [(4, .int (x4 + 1)), (0, .ref aM), (1, .int x1), (2, .int x2), (3, .int x3), (5, .int x5)]) hx hb dX7_findFewest_138 hl (k := 4) rfl rfl (by decide) rfl (fun ls hl => ?_)
                refine lv_goto (tgt := 43) hx hb dX7_findFewest_141 (by decide) ?_
                exact ih43 M_fewest x1 x2 x3 (x4 + 1) _ _ _ h hP hD hS (lv_sub hl [1, 2, 3, 4, 0] rfl)
              · have h := ifn c5603 h
                refine lv_iload hx hb dX7_findFewest_64 (lv_at hl 4 rfl) ?_
                refine lv_iload_n hx hb dX7_findFewest_66 rfl (lv_at hl 2 rfl) ?_
                refine lv_icmp_eq (tgt := 138) hx hb dX7_findFewest_67 (by decide) (fun c5604 => ?_) (fun c5604 => ?_)
                · have h := ift c5604 h
                  refine lv_iinc (v := x4 + 1) (lv' := [(4, .int (x4 + 1)), (0, .ref aM), (1, .int x1), (2, .int x2), (3, .int x3), (5, .int x5)]) hx hb dX7_findFewest_138 hl (k := 4) rfl rfl (by decide) rfl (fun ls hl => ?_)
                  refine lv_goto (tgt := 43) hx hb dX7_findFewest_141 (by decide) ?_
                  exact ih43 M_fewest x1 x2 x3 (x4 + 1) _ _ _ h hP hD hS (lv_sub hl [1, 2, 3, 4, 0] rfl)
                · have h := ifn c5604 h
                  refine lv_aload_n hx hb dX7_findFewest_70 rfl (lv_at hl 0 rfl) ?_
                  refine ka_get (v := .ref aM_fewest) (C := RX7) (T := TX7) (Nf := 28) (ref := "BeepNetModel") hx hb hts hiX7 hown hK hP 0 rfl rfl 21 (by decide) k_0 rfl rfl dX7_findFewest_71 ?_
                  refine lv_aload_n hx hb dX7_findFewest_74 rfl (lv_at hl 0 rfl) ?_
                  refine lv_iload_n hx hb dX7_findFewest_75 rfl (lv_at hl 1 rfl) ?_
                  refine lv_iload hx hb dX7_findFewest_76 (lv_at hl 4 rfl) ?_
                  refine lv_iload hx hb dX7_findFewest_78 (lv_at hl 5 rfl) ?_
                  obtain ⟨r5605, e5606, h⟩ := bd1_s h
                  refine kc_vi (rest := [.ref aM_fewest]) (wr := [(aM_fewest, .inl (cI, 256, .inl M_fewest))]) (wF := [(aM, .inr (7, [.int M_thrown, .int M_status, .ref aM_lane, .ref aM_many, .ref aM_item, .int M_posts, .ref aM_beside, .int M_rounds, .ref aM_round, .int M_read, .ref aM_reads, .ref aM_tape, .int M_taped, .int M_latest, .int M_length, .int M_at, .int M_sort, .int M_from, .int M_till, .int M_fault, .int M_faultAt, .ref aM_fewest, .ref aM_may, .ref aM_then, .ref aM_cases, .ref aM_next, .ref aM_trace, .int M_traced])), (aM_beside, .inl (cI, 8, .inl M_beside)), (aM_fewest, .inl (cI, 256, .inl M_fewest))]) ⟨hx, hb, hml, hown, hts⟩ (c_X7_spread l dC dI cI cJ cZ cA aM aM_lane aM_many aM_item aM_beside aM_round aM_reads aM_tape aM_fewest aM_may aM_then aM_cases aM_next aM_trace M_thrown M_status M_posts M_rounds M_read M_taped M_latest M_length M_at M_sort M_from M_till M_fault M_faultAt M_traced M_beside x1 x4 x5 r5605 e5606) (cwV 3 hts gX7_findFewest_X7_spread rfl rfl rfl (by decide +kernel) ⟨Nat.le_of_ble_eq_true rfl, Nat.le_of_ble_eq_true rfl⟩) hK hP hD hS hA [0, 1] [2] [1, 2, 0] 0 rfl rfl rfl rfl (by decide) rfl rfl rfl rfl rfl rfl hl.1 rfl (Nat.le_of_ble_eq_true rfl) dX7_findFewest_80 ⟨Nat.zero_le _, Nat.zero_le _⟩ (fun H locs hP hD hS => ?_)
                  obtain ⟨v5607, ev5607, hn5608, h⟩ := ldx_s h
                  refine ka_ild hx hb hK hP 2 0 ev5607 rfl rfl hn5608 dX7_findFewest_83 ?_
                  refine lv_istore (lv' := [(6, .int v5607), (0, .ref aM), (1, .int x1), (2, .int x2), (3, .int x3), (4, .int x4), (5, .int x5)]) hx hb dX7_findFewest_84 hl (by decide) rfl (fun ls hl => ?_)
                  refine lv_iload hx hb dX7_findFewest_86 (lv_at hl 0 rfl) ?_
                  refine lv_ldc hx hb hown k_1 dX7_findFewest_88 ?_
                  refine lv_icmp_eq (tgt := 132) hx hb dX7_findFewest_90 (by decide) (fun c5609 => ?_) (fun c5609 => ?_)
                  · have h := ift c5609 h
                    refine lv_iinc (v := x5 + 1) (lv' := [(5, .int (x5 + 1)), (6, .int v5607), (0, .ref aM), (1, .int x1), (2, .int x2), (3, .int x3), (4, .int x4)]) hx hb dX7_findFewest_132 hl (k := 6) rfl rfl (by decide) rfl (fun ls hl => ?_)
                    refine lv_goto (tgt := 55) hx hb dX7_findFewest_135 (by decide) ?_
                    exact ih55 M_fewest x1 x2 x3 x4 (x5 + 1) _ _ _ h hP hD hS (lv_sub hl [2, 3, 4, 5, 6, 0] rfl)
                  · have h := ifn c5609 h
                    refine lv_aload_n hx hb dX7_findFewest_93 rfl (lv_at hl 1 rfl) ?_
                    refine ka_get (v := .ref aM_fewest) (C := RX7) (T := TX7) (Nf := 28) (ref := "BeepNetModel") hx hb hts hiX7 hown hK hP 0 rfl rfl 21 (by decide) k_0 rfl rfl dX7_findFewest_94 ?_
                    refine lv_iload hx hb dX7_findFewest_97 (lv_at hl 5 rfl) ?_
                    obtain ⟨v5610, ev5610, hn5611, h⟩ := ldx_s h
                    refine ka_ild hx hb hK hP 2 0 ev5610 rfl rfl hn5611 dX7_findFewest_99 ?_
                    refine lv_ldc hx hb hown k_1 dX7_findFewest_100 ?_
                    refine lv_icmp_eq (tgt := 119) hx hb dX7_findFewest_102 (by decide) (fun c5612 => ?_) (fun c5612 => ?_)
                    · have h := ift c5612 h
                      exact hC119 M_fewest x1 x2 x4 x5 v5607 _ _ _ h hP hD hS (lv_sub hl [1, 2, 3, 5, 6, 0] rfl)
                    · have h := ifn c5612 h
                      refine lv_iload hx hb dX7_findFewest_105 (lv_at hl 0 rfl) ?_
                      refine lv_iconst (v := 1) hx hb dX7_findFewest_107 (by decide) ?_
                      refine lv_iadd hx hb dX7_findFewest_108 ?_
                      refine lv_aload_n hx hb dX7_findFewest_109 rfl (lv_at hl 1 rfl) ?_
                      refine ka_get (v := .ref aM_fewest) (C := RX7) (T := TX7) (Nf := 28) (ref := "BeepNetModel") hx hb hts hiX7 hown hK hP 0 rfl rfl 21 (by decide) k_0 rfl rfl dX7_findFewest_110 ?_
                      refine lv_iload hx hb dX7_findFewest_113 (lv_at hl 5 rfl) ?_
                      obtain ⟨v5613, ev5613, hn5614, h⟩ := ldx_s h
                      refine ka_ild hx hb hK hP 2 0 ev5613 rfl rfl hn5614 dX7_findFewest_115 ?_
                      refine lv_icmp_ge (tgt := 132) hx hb dX7_findFewest_116 (by decide) (fun c5615 => ?_) (fun c5615 => ?_)
                      · have h := ift c5615 h
                        refine lv_iinc (v := x5 + 1) (lv' := [(5, .int (x5 + 1)), (6, .int v5607), (0, .ref aM), (1, .int x1), (2, .int x2), (3, .int x3), (4, .int x4)]) hx hb dX7_findFewest_132 hl (k := 6) rfl rfl (by decide) rfl (fun ls hl => ?_)
                        refine lv_goto (tgt := 55) hx hb dX7_findFewest_135 (by decide) ?_
                        exact ih55 M_fewest x1 x2 x3 x4 (x5 + 1) _ _ _ h hP hD hS (lv_sub hl [2, 3, 4, 5, 6, 0] rfl)
                      · have h := ifn c5615 h
                        exact hC119 M_fewest x1 x2 x4 x5 v5607 _ _ _ h hP hD hS (lv_sub hl [1, 2, 3, 5, 6, 0] rfl)
          intro M_fewest x1 x2 x3 x4 H locs ls h hP hD hS hl
          rw [fX7_findFewest_c43] at h
          refine lv_iload hx hb dX7_findFewest_43 (lv_at hl 4 rfl) ?_
          refine lv_aload_n hx hb dX7_findFewest_45 rfl (lv_at hl 0 rfl) ?_
          obtain ⟨r4401, e4402, h⟩ := bd1_s h
          refine kc_vi (rest := [.int x4]) (wr := [(aM_beside, .inl (cI, 8, .inl M_beside)), (aM_fewest, .inl (cI, 256, .inl M_fewest))]) (wF := [(aM, .inr (7, [.int M_thrown, .int M_status, .ref aM_lane, .ref aM_many, .ref aM_item, .int M_posts, .ref aM_beside, .int M_rounds, .ref aM_round, .int M_read, .ref aM_reads, .ref aM_tape, .int M_taped, .int M_latest, .int M_length, .int M_at, .int M_sort, .int M_from, .int M_till, .int M_fault, .int M_faultAt, .ref aM_fewest, .ref aM_may, .ref aM_then, .ref aM_cases, .ref aM_next, .ref aM_trace, .int M_traced])), (aM_beside, .inl (cI, 8, .inl M_beside)), (aM_fewest, .inl (cI, 256, .inl M_fewest))]) ⟨hx, hb, hml, hown, hts⟩ (c_X7_all l dC dI cI cJ cZ cA aM aM_lane aM_many aM_item aM_beside aM_round aM_reads aM_tape aM_fewest aM_may aM_then aM_cases aM_next aM_trace M_thrown M_status M_posts M_rounds M_read M_taped M_latest M_length M_at M_sort M_from M_till M_fault M_faultAt M_traced r4401 e4402) (cwV 0 hts gX7_findFewest_X7_all rfl rfl rfl (by decide +kernel) ⟨Nat.le_of_ble_eq_true rfl, Nat.le_of_ble_eq_true rfl⟩) hK hP hD hS hA [0] [1, 2] [2, 0, 1] 0 rfl rfl rfl rfl (by decide) rfl rfl rfl rfl rfl rfl hl.1 rfl (Nat.le_of_ble_eq_true rfl) dX7_findFewest_46 ⟨Nat.zero_le _, Nat.zero_le _⟩ (fun H locs hP hD hS => ?_)
          refine lv_icmp_gt (tgt := 144) hx hb dX7_findFewest_49 (by decide) (fun c4403 => ?_) (fun c4403 => ?_)
          · have h := ift c4403 h
            refine lv_goto (tgt := 34) hx hb dX7_findFewest_144 (by decide) ?_
            exact ih34 M_fewest x1 x2 x3 _ _ _ h hP hD hS (lv_sub hl [0, 1, 2, 3] rfl)
          · have h := ifn c4403 h
            refine lv_iconst (v := 0) hx hb dX7_findFewest_52 (by decide) ?_
            refine lv_istore (lv' := [(5, .int 0), (0, .ref aM), (1, .int x1), (2, .int x2), (3, .int x3), (4, .int x4)]) hx hb dX7_findFewest_53 hl (by decide) rfl (fun ls hl => ?_)
            exact hC55 FU M_fewest x1 x2 x3 x4 0 _ _ _ h hP hD hS (lv_sub hl [1, 2, 3, 4, 5, 0] rfl)
      intro M_fewest x1 x2 x3 H locs ls h hP hD hS hl
      rw [fX7_findFewest_c34] at h
      refine lv_iload_n hx hb dX7_findFewest_34 rfl (lv_at hl 3 rfl) ?_
      refine lv_if_eq (tgt := 147) hx hb dX7_findFewest_35 (by decide) (fun c3501 => ?_) (fun c3501 => ?_)
      · have h := ift c3501 h
        obtain rfl := sj1 h
        exact hret _ _ _ _ hP hD hS dX7_findFewest_147
      · have h := ifn c3501 h
        refine lv_iconst (v := 0) hx hb dX7_findFewest_38 (by decide) ?_
        refine lv_istore_n (lv' := [(3, .int 0), (0, .ref aM), (1, .int x1), (2, .int x2)]) hx hb dX7_findFewest_39 rfl hl (by decide) rfl (fun ls hl => ?_)
        refine lv_iconst (v := 0) hx hb dX7_findFewest_40 (by decide) ?_
        refine lv_istore (lv' := [(4, .int 0), (3, .int 0), (0, .ref aM), (1, .int x1), (2, .int x2)]) hx hb dX7_findFewest_41 hl (by decide) rfl (fun ls hl => ?_)
        exact hC43 FU M_fewest x1 x2 0 0 _ _ _ h hP hD hS (lv_sub hl [2, 3, 4, 1, 0] rfl)
  have hC2 : ∀ (n : Nat) (M_fewest : Nat → Int32) (x1 : Int32) (x2 : Int32) (x3 : Int32) (H : Heap) (locs : List Loc) (ls : Array Slot), fX7_findFewest_c2 M_posts M_beside n M_fewest x1 x2 x3 = some M_fewest_z → va_P (dC, dI) vwCl [(aM, .inr (7, [.int M_thrown, .int M_status, .ref aM_lane, .ref aM_many, .ref aM_item, .int M_posts, .ref aM_beside, .int M_rounds, .ref aM_round, .int M_read, .ref aM_reads, .ref aM_tape, .int M_taped, .int M_latest, .int M_length, .int M_at, .int M_sort, .int M_from, .int M_till, .int M_fault, .int M_faultAt, .ref aM_fewest, .ref aM_may, .ref aM_then, .ref aM_cases, .ref aM_next, .ref aM_trace, .int M_traced])), (aM_beside, .inl (cI, 8, .inl M_beside)), (aM_fewest, .inl (cI, 256, .inl M_fewest))] H → va_D A [(aM, .inr (7, [.int M_thrown, .int M_status, .ref aM_lane, .ref aM_many, .ref aM_item, .int M_posts, .ref aM_beside, .int M_rounds, .ref aM_round, .int M_read, .ref aM_reads, .ref aM_tape, .int M_taped, .int M_latest, .int M_length, .int M_at, .int M_sort, .int M_from, .int M_till, .int M_fault, .int M_faultAt, .ref aM_fewest, .ref aM_may, .ref aM_then, .ref aM_cases, .ref aM_next, .ref aM_trace, .int M_traced])), (aM_beside, .inl (cI, 8, .inl M_beside)), (aM_fewest, .inl (cI, 256, .inl M_fewest))] → va_S A s.heap H locs → lv_has ls 7 [(0, .ref aM), (1, .int x1), (2, .int x2), (3, .int x3)] → W p l e rmX7_findFewest s m args below meth c H locs 0 0 Q (F0 m 2 ls []) := by
    intro n
    induction n with
    | zero => intro M_fewest x1 x2 x3 H locs ls h; rw [fX7_findFewest_c2] at h; cases h
    | succ n2 ih2 =>
      intro M_fewest x1 x2 x3 H locs ls h hP hD hS hl
      rw [fX7_findFewest_c2] at h
      refine lv_iload_n hx hb dX7_findFewest_2 rfl (lv_at hl 3 rfl) ?_
      refine lv_sipush (v := 256) hx hb dX7_findFewest_3 (by decide) ?_
      refine lv_icmp_ge (tgt := 32) hx hb dX7_findFewest_6 (by decide) (fun c301 => ?_) (fun c301 => ?_)
      · have h := ift c301 h
        refine lv_iconst (v := 1) hx hb dX7_findFewest_32 (by decide) ?_
        refine lv_istore_n (lv' := [(3, .int 1), (0, .ref aM), (1, .int x1), (2, .int x2)]) hx hb dX7_findFewest_33 rfl hl (by decide) rfl (fun ls hl => ?_)
        exact hC34 FU M_fewest x1 x2 1 _ _ _ h hP hD hS (lv_sub hl [1, 2, 3, 0] rfl)
      · have h := ifn c301 h
        refine lv_aload_n hx hb dX7_findFewest_9 rfl (lv_at hl 0 rfl) ?_
        refine ka_get (v := .ref aM_fewest) (C := RX7) (T := TX7) (Nf := 28) (ref := "BeepNetModel") hx hb hts hiX7 hown hK hP 0 rfl rfl 21 (by decide) k_0 rfl rfl dX7_findFewest_10 ?_
        refine lv_iload_n hx hb dX7_findFewest_13 rfl (lv_at hl 3 rfl) ?_
        refine lv_iload_n hx hb dX7_findFewest_14 rfl (lv_at hl 3 rfl) ?_
        refine lv_iload_n hx hb dX7_findFewest_15 rfl (lv_at hl 2 rfl) ?_
        refine lv_icmp_ne (tgt := 23) hx hb dX7_findFewest_16 (by decide) (fun c302 => ?_) (fun c302 => ?_)
        · have h := ifn c302 h
          refine lv_ldc hx hb hown k_1 dX7_findFewest_23 ?_
          obtain ⟨g303, eg303, hn304, h⟩ := sti_s h
          refine ka_ist (w1 := [(aM, .inr (7, [.int M_thrown, .int M_status, .ref aM_lane, .ref aM_many, .ref aM_item, .int M_posts, .ref aM_beside, .int M_rounds, .ref aM_round, .int M_read, .ref aM_reads, .ref aM_tape, .int M_taped, .int M_latest, .int M_length, .int M_at, .int M_sort, .int M_from, .int M_till, .int M_fault, .int M_faultAt, .ref aM_fewest, .ref aM_may, .ref aM_then, .ref aM_cases, .ref aM_next, .ref aM_trace, .int M_traced])), (aM_beside, .inl (cI, 8, .inl M_beside)), (aM_fewest, .inl (cI, 256, .inl g303))]) hx hb hK hP hD hS 2 0 eg303 rfl rfl hn304 dX7_findFewest_25 rfl (fun H locs hP hD hS => ?_)
          refine lv_iinc (v := x3 + 1) (lv' := [(3, .int (x3 + 1)), (0, .ref aM), (1, .int x1), (2, .int x2)]) hx hb dX7_findFewest_26 hl (k := 3) rfl rfl (by decide) rfl (fun ls hl => ?_)
          refine lv_goto (tgt := 2) hx hb dX7_findFewest_29 (by decide) ?_
          exact ih2 g303 x1 x2 (x3 + 1) _ _ _ h hP hD hS (lv_sub hl [1, 2, 3, 0] rfl)
        · have h := ift c302 h
          refine lv_iconst (v := 0) hx hb dX7_findFewest_19 (by decide) ?_
          refine lv_goto (tgt := 25) hx hb dX7_findFewest_20 (by decide) ?_
          obtain ⟨g305, eg305, hn306, h⟩ := sti_s h
          refine ka_ist (w1 := [(aM, .inr (7, [.int M_thrown, .int M_status, .ref aM_lane, .ref aM_many, .ref aM_item, .int M_posts, .ref aM_beside, .int M_rounds, .ref aM_round, .int M_read, .ref aM_reads, .ref aM_tape, .int M_taped, .int M_latest, .int M_length, .int M_at, .int M_sort, .int M_from, .int M_till, .int M_fault, .int M_faultAt, .ref aM_fewest, .ref aM_may, .ref aM_then, .ref aM_cases, .ref aM_next, .ref aM_trace, .int M_traced])), (aM_beside, .inl (cI, 8, .inl M_beside)), (aM_fewest, .inl (cI, 256, .inl g305))]) hx hb hK hP hD hS 2 0 eg305 rfl rfl hn306 dX7_findFewest_25 rfl (fun H locs hP hD hS => ?_)
          refine lv_iinc (v := x3 + 1) (lv' := [(3, .int (x3 + 1)), (0, .ref aM), (1, .int x1), (2, .int x2)]) hx hb dX7_findFewest_26 hl (k := 3) rfl rfl (by decide) rfl (fun ls hl => ?_)
          refine lv_goto (tgt := 2) hx hb dX7_findFewest_29 (by decide) ?_
          exact ih2 g305 x1 x2 (x3 + 1) _ _ _ h hP hD hS (lv_sub hl [1, 2, 3, 0] rfl)
  unfold fX7_findFewest at h
  refine lv_iconst (v := 0) hx hb dX7_findFewest_0 (by decide) ?_
  refine lv_istore_n (lv' := [(3, .int 0), (0, .ref aM), (1, .int p0), (2, .int p1)]) hx hb dX7_findFewest_1 rfl hl (by decide) rfl (fun ls hl => ?_)
  exact hC2 FU M_fewest p0 p1 0 _ _ _ h hP hD hS (lv_sub hl [1, 2, 3, 0] rfl)
