set_option maxHeartbeats 4000000 in
set_option maxRecDepth 100000 in
theorem c_X7_began (l : Launch) (dC : Nat → ClassId) (dI : Nat → Nat → Nat) (cI cJ cZ cA : ClassId) (aM aM_lane aM_many aM_item aM_beside aM_round aM_reads aM_tape aM_fewest aM_may aM_then aM_cases aM_next aM_trace : Nat) (M_thrown : Int32) (M_status : Int32) (M_posts : Int32) (M_rounds : Int32) (M_read : Int32) (M_taped : Int32) (M_latest : Int32) (M_length : Int32) (M_at : Int32) (M_sort : Int32) (M_from : Int32) (M_till : Int32) (M_fault : Int32) (M_faultAt : Int32) (M_traced : Int32) (M_trace : Nat → Int32) (p0 : Int32) (M_traced_z : Int32) (M_trace_z : Nat → Int32) (h : fX7_began M_traced M_trace p0 = some (M_traced_z, M_trace_z)) : Ctv l yX7_began wsX7_began rmX7_began (dC, dI) (tyL cI cJ cZ cA) [(aM, .inr (7, [.int M_thrown, .int M_status, .ref aM_lane, .ref aM_many, .ref aM_item, .int M_posts, .ref aM_beside, .int M_rounds, .ref aM_round, .int M_read, .ref aM_reads, .ref aM_tape, .int M_taped, .int M_latest, .int M_length, .int M_at, .int M_sort, .int M_from, .int M_till, .int M_fault, .int M_faultAt, .ref aM_fewest, .ref aM_may, .ref aM_then, .ref aM_cases, .ref aM_next, .ref aM_trace, .int M_traced])), (aM_trace, .inl (cI, 16, .inl M_trace))] [(aM, .inr (7, [.int M_thrown, .int M_status, .ref aM_lane, .ref aM_many, .ref aM_item, .int M_posts, .ref aM_beside, .int M_rounds, .ref aM_round, .int M_read, .ref aM_reads, .ref aM_tape, .int M_taped, .int M_latest, .int M_length, .int M_at, .int M_sort, .int M_from, .int M_till, .int M_fault, .int M_faultAt, .ref aM_fewest, .ref aM_may, .ref aM_then, .ref aM_cases, .ref aM_next, .ref aM_trace, .int M_traced_z])), (aM_trace, .inl (cI, 16, .inl M_trace_z))] [.ref aM, .int p0] := by
  refine ct_void (cc := cX7_began) (maxL := 2) (by decide) rfl (Nat.le_of_ble_eq_true rfl) ?_
  intro p e s m args below meth c A Q ls hx hb hml hown hts hA hK hP hD hS hl hret
  have hl : lv_has ls 2 [(0, .ref aM), (1, .int p0)] := hl
  have k_0 := hts (.fieldLink RX7 215 "BeepNetModel" "traced" "I") (by decide +kernel)
  have k_1 := hts (.fieldLink RX7 48 "BeepNetModel" "trace" "[I") (by decide +kernel)
  have hiX7 : ∀ w ∈ u_ws RX7 TX7 28, w ∈ wsX7_began := fun w hw => List.mem_cons_of_mem _ (List.mem_append_right _ hw)
  unfold fX7_began at h
  refine lv_aload_n hx hb dX7_began_0 rfl (lv_at hl 0 rfl) ?_
  refine ka_get (v := .int M_traced) (C := RX7) (T := TX7) (Nf := 28) (ref := "BeepNetModel") hx hb hts hiX7 hown hK hP 0 rfl rfl 27 (by decide) k_0 rfl rfl dX7_began_1 ?_
  refine lv_bipush (v := 16) hx hb dX7_began_4 (by decide) ?_
  refine lv_icmp_ge (tgt := 29) hx hb dX7_began_6 (by decide) (fun c1 => ?_) (fun c1 => ?_)
  · have h := ift c1 h
    obtain ⟨rfl, rfl⟩ := sj2 h
    exact hret _ _ _ _ hP hD hS dX7_began_29
  · have h := ifn c1 h
    refine lv_aload_n hx hb dX7_began_9 rfl (lv_at hl 0 rfl) ?_
    refine ka_get (v := .ref aM_trace) (C := RX7) (T := TX7) (Nf := 28) (ref := "BeepNetModel") hx hb hts hiX7 hown hK hP 0 rfl rfl 26 (by decide) k_1 rfl rfl dX7_began_10 ?_
    refine lv_aload_n hx hb dX7_began_13 rfl (lv_at hl 0 rfl) ?_
    refine ka_get (v := .int M_traced) (C := RX7) (T := TX7) (Nf := 28) (ref := "BeepNetModel") hx hb hts hiX7 hown hK hP 0 rfl rfl 27 (by decide) k_0 rfl rfl dX7_began_14 ?_
    refine lv_iload_n hx hb dX7_began_17 rfl (lv_at hl 1 rfl) ?_
    obtain ⟨g2, eg2, hn3, h⟩ := sti_s h
    refine ka_ist (w1 := [(aM, .inr (7, [.int M_thrown, .int M_status, .ref aM_lane, .ref aM_many, .ref aM_item, .int M_posts, .ref aM_beside, .int M_rounds, .ref aM_round, .int M_read, .ref aM_reads, .ref aM_tape, .int M_taped, .int M_latest, .int M_length, .int M_at, .int M_sort, .int M_from, .int M_till, .int M_fault, .int M_faultAt, .ref aM_fewest, .ref aM_may, .ref aM_then, .ref aM_cases, .ref aM_next, .ref aM_trace, .int M_traced])), (aM_trace, .inl (cI, 16, .inl g2))]) hx hb hK hP hD hS 1 0 eg2 rfl rfl hn3 dX7_began_18 rfl (fun H locs hP hD hS => ?_)
    refine lv_aload_n hx hb dX7_began_19 rfl (lv_at hl 0 rfl) ?_
    refine lv_dup hx hb dX7_began_20 rfl ?_
    refine ka_get (v := .int M_traced) (C := RX7) (T := TX7) (Nf := 28) (ref := "BeepNetModel") hx hb hts hiX7 hown hK hP 0 rfl rfl 27 (by decide) k_0 rfl rfl dX7_began_21 ?_
    refine lv_iconst (v := 1) hx hb dX7_began_24 (by decide) ?_
    refine lv_iadd hx hb dX7_began_25 ?_
    refine ka_put (w1 := [(aM, .inr (7, [.int M_thrown, .int M_status, .ref aM_lane, .ref aM_many, .ref aM_item, .int M_posts, .ref aM_beside, .int M_rounds, .ref aM_round, .int M_read, .ref aM_reads, .ref aM_tape, .int M_taped, .int M_latest, .int M_length, .int M_at, .int M_sort, .int M_from, .int M_till, .int M_fault, .int M_faultAt, .ref aM_fewest, .ref aM_may, .ref aM_then, .ref aM_cases, .ref aM_next, .ref aM_trace, .int (M_traced + (1 : Int32))])), (aM_trace, .inl (cI, 16, .inl g2))]) (C := RX7) (T := TX7) (Nf := 28) (ref := "BeepNetModel") hx hb hts hiX7 tyX7 tyX7_ok nmX7 hown hK hP hD hS 0 rfl rfl 27 (by decide) k_0 rfl rfl rfl (Nat.le_of_ble_eq_true rfl) dX7_began_26 rfl (fun H locs hP hD hS => ?_)
    obtain ⟨rfl, rfl⟩ := sj2 h
    exact hret _ _ _ _ hP hD hS dX7_began_29
set_option maxHeartbeats 4000000 in
set_option maxRecDepth 100000 in
theorem c_X7_sized (l : Launch) (dC : Nat → ClassId) (dI : Nat → Nat → Nat) (cI cJ cZ cA : ClassId) (aM aM_lane aM_many aM_item aM_beside aM_round aM_reads aM_tape aM_fewest aM_may aM_then aM_cases aM_next aM_trace : Nat) (M_thrown : Int32) (M_status : Int32) (M_posts : Int32) (M_rounds : Int32) (M_read : Int32) (M_taped : Int32) (M_latest : Int32) (M_length : Int32) (M_at : Int32) (M_sort : Int32) (M_from : Int32) (M_till : Int32) (M_fault : Int32) (M_faultAt : Int32) (M_traced : Int32) (M_beside : Nat → Int32) (M_trace : Nat → Int32) (p0 : Int32) (rr : Int32) (M_traced_z : Int32) (M_trace_z : Nat → Int32) (h : fX7_sized M_posts M_traced M_beside M_trace p0 = some (rr, M_traced_z, M_trace_z)) : Cti l yX7_sized wsX7_sized rmX7_sized (dC, dI) (tyL cI cJ cZ cA) [(aM, .inr (7, [.int M_thrown, .int M_status, .ref aM_lane, .ref aM_many, .ref aM_item, .int M_posts, .ref aM_beside, .int M_rounds, .ref aM_round, .int M_read, .ref aM_reads, .ref aM_tape, .int M_taped, .int M_latest, .int M_length, .int M_at, .int M_sort, .int M_from, .int M_till, .int M_fault, .int M_faultAt, .ref aM_fewest, .ref aM_may, .ref aM_then, .ref aM_cases, .ref aM_next, .ref aM_trace, .int M_traced])), (aM_beside, .inl (cI, 8, .inl M_beside)), (aM_trace, .inl (cI, 16, .inl M_trace))] [(aM, .inr (7, [.int M_thrown, .int M_status, .ref aM_lane, .ref aM_many, .ref aM_item, .int M_posts, .ref aM_beside, .int M_rounds, .ref aM_round, .int M_read, .ref aM_reads, .ref aM_tape, .int M_taped, .int M_latest, .int M_length, .int M_at, .int M_sort, .int M_from, .int M_till, .int M_fault, .int M_faultAt, .ref aM_fewest, .ref aM_may, .ref aM_then, .ref aM_cases, .ref aM_next, .ref aM_trace, .int M_traced_z])), (aM_beside, .inl (cI, 8, .inl M_beside)), (aM_trace, .inl (cI, 16, .inl M_trace_z))] [.ref aM, .int p0] rr := by
  refine ct_int (ty := .int) (cc := cX7_sized) (maxL := 4) (by decide) rfl (Nat.le_of_ble_eq_true rfl) ?_
  intro p e s m args below meth c A Q ls hx hb hml hown hts hA hK hP hD hS hl hret
  have hl : lv_has ls 4 [(0, .ref aM), (1, .int p0)] := hl
  have k_0 := hts (.fieldLink RX7 19 "BeepNetModel" "beside" "[I") (by decide +kernel)
  have hiX7 : ∀ w ∈ u_ws RX7 TX7 28, w ∈ wsX7_sized := fun w hw => List.mem_cons_of_mem _ (List.mem_append_right _ hw)
  have hC68 : ∀ (M_traced : Int32) (M_trace : Nat → Int32) (x1 : Int32) (x2 : Int32) (t0 : Int32) (t1 : Int32) (H : Heap) (locs : List Loc) (ls : Array Slot), fX7_sized_c68 M_posts M_beside M_traced M_trace x1 x2 t0 t1 = some (rr, M_traced_z, M_trace_z) → va_P (dC, dI) vwCl [(aM, .inr (7, [.int M_thrown, .int M_status, .ref aM_lane, .ref aM_many, .ref aM_item, .int M_posts, .ref aM_beside, .int M_rounds, .ref aM_round, .int M_read, .ref aM_reads, .ref aM_tape, .int M_taped, .int M_latest, .int M_length, .int M_at, .int M_sort, .int M_from, .int M_till, .int M_fault, .int M_faultAt, .ref aM_fewest, .ref aM_may, .ref aM_then, .ref aM_cases, .ref aM_next, .ref aM_trace, .int M_traced])), (aM_beside, .inl (cI, 8, .inl M_beside)), (aM_trace, .inl (cI, 16, .inl M_trace))] H → va_D A [(aM, .inr (7, [.int M_thrown, .int M_status, .ref aM_lane, .ref aM_many, .ref aM_item, .int M_posts, .ref aM_beside, .int M_rounds, .ref aM_round, .int M_read, .ref aM_reads, .ref aM_tape, .int M_taped, .int M_latest, .int M_length, .int M_at, .int M_sort, .int M_from, .int M_till, .int M_fault, .int M_faultAt, .ref aM_fewest, .ref aM_may, .ref aM_then, .ref aM_cases, .ref aM_next, .ref aM_trace, .int M_traced])), (aM_beside, .inl (cI, 8, .inl M_beside)), (aM_trace, .inl (cI, 16, .inl M_trace))] → va_S A s.heap H locs → lv_has ls 4 [(0, .ref aM), (1, .int x1), (2, .int x2)] → W p l e rmX7_sized s m args below meth c H locs 0 0 Q (F0 m 68 ls [.int t1, .int t0]) := by
    intro M_traced M_trace x1 x2 t0 t1 H locs ls h hP hD hS hl
    unfold fX7_sized_c68 at h
    refine lv_iadd hx hb dX7_sized_68 ?_
    refine lv_istore_n (lv' := [(3, .int (t0 + t1)), (0, .ref aM), (1, .int x1), (2, .int x2)]) hx hb dX7_sized_69 rfl hl (by decide) rfl (fun ls hl => ?_)
    refine lv_iload_n hx hb dX7_sized_70 rfl (lv_at hl 3 rfl) ?_
    refine lv_iconst (v := 3) hx hb dX7_sized_71 (by decide) ?_
    refine lv_icmp_ne (tgt := 94) hx hb dX7_sized_72 (by decide) (fun c6901 => ?_) (fun c6901 => ?_)
    · have h := ifn c6901 h
      refine lv_iload_n hx hb dX7_sized_94 rfl (lv_at hl 3 rfl) ?_
      refine lv_iconst (v := 2) hx hb dX7_sized_95 (by decide) ?_
      refine lv_icmp_ne (tgt := 105) hx hb dX7_sized_96 (by decide) (fun c6902 => ?_) (fun c6902 => ?_)
      · have h := ifn c6902 h
        refine lv_iload_n hx hb dX7_sized_105 rfl (lv_at hl 0 rfl) ?_
        obtain ⟨rfl, rfl, rfl⟩ := sj3 h
        exact hret _ _ _ _ _ rfl rfl hP hD hS dX7_sized_106
      · have h := ift c6902 h
        refine lv_iconst (v := 2) hx hb dX7_sized_99 (by decide) ?_
        refine lv_iload_n hx hb dX7_sized_100 rfl (lv_at hl 0 rfl) ?_
        refine lv_imul hx hb dX7_sized_101 ?_
        refine lv_goto (tgt := 106) hx hb dX7_sized_102 (by decide) ?_
        obtain ⟨rfl, rfl, rfl⟩ := sj3 h
        exact hret _ _ _ _ _ rfl rfl hP hD hS dX7_sized_106
    · have h := ift c6901 h
      refine lv_aload_n hx hb dX7_sized_75 rfl (lv_at hl 1 rfl) ?_
      refine lv_bipush (v := 21) hx hb dX7_sized_76 (by decide) ?_
      obtain ⟨M_traced_6903, M_trace_6904, e6905, h⟩ := bd2_s h
      refine kc_vv (rest := []) (wr := [(aM_beside, .inl (cI, 8, .inl M_beside))]) (wF := [(aM, .inr (7, [.int M_thrown, .int M_status, .ref aM_lane, .ref aM_many, .ref aM_item, .int M_posts, .ref aM_beside, .int M_rounds, .ref aM_round, .int M_read, .ref aM_reads, .ref aM_tape, .int M_taped, .int M_latest, .int M_length, .int M_at, .int M_sort, .int M_from, .int M_till, .int M_fault, .int M_faultAt, .ref aM_fewest, .ref aM_may, .ref aM_then, .ref aM_cases, .ref aM_next, .ref aM_trace, .int M_traced_6903])), (aM_beside, .inl (cI, 8, .inl M_beside)), (aM_trace, .inl (cI, 16, .inl M_trace_6904))]) ⟨hx, hb, hml, hown, hts⟩ (c_X7_began l dC dI cI cJ cZ cA aM aM_lane aM_many aM_item aM_beside aM_round aM_reads aM_tape aM_fewest aM_may aM_then aM_cases aM_next aM_trace M_thrown M_status M_posts M_rounds M_read M_taped M_latest M_length M_at M_sort M_from M_till M_fault M_faultAt M_traced M_trace 21 M_traced_6903 M_trace_6904 e6905) (cwV 1 hts gX7_sized_X7_began rfl rfl rfl (by decide +kernel) ⟨Nat.le_of_ble_eq_true rfl, Nat.le_of_ble_eq_true rfl⟩) hK hP hD hS hA [0, 2] [1] [1, 0, 2] 0 rfl rfl rfl rfl (by decide) rfl rfl rfl rfl rfl rfl hl.1 rfl (Nat.le_of_ble_eq_true rfl) dX7_sized_78 ⟨Nat.zero_le _, Nat.zero_le _⟩ (fun H locs hP hD hS => ?_)
      refine lv_aload_n hx hb dX7_sized_81 rfl (lv_at hl 1 rfl) ?_
      refine lv_bipush (v := 20) hx hb dX7_sized_82 (by decide) ?_
      obtain ⟨M_traced_6906, M_trace_6907, e6908, h⟩ := bd2_s h
      refine kc_vv (rest := []) (wr := [(aM_beside, .inl (cI, 8, .inl M_beside))]) (wF := [(aM, .inr (7, [.int M_thrown, .int M_status, .ref aM_lane, .ref aM_many, .ref aM_item, .int M_posts, .ref aM_beside, .int M_rounds, .ref aM_round, .int M_read, .ref aM_reads, .ref aM_tape, .int M_taped, .int M_latest, .int M_length, .int M_at, .int M_sort, .int M_from, .int M_till, .int M_fault, .int M_faultAt, .ref aM_fewest, .ref aM_may, .ref aM_then, .ref aM_cases, .ref aM_next, .ref aM_trace, .int M_traced_6906])), (aM_beside, .inl (cI, 8, .inl M_beside)), (aM_trace, .inl (cI, 16, .inl M_trace_6907))]) ⟨hx, hb, hml, hown, hts⟩ (c_X7_began l dC dI cI cJ cZ cA aM aM_lane aM_many aM_item aM_beside aM_round aM_reads aM_tape aM_fewest aM_may aM_then aM_cases aM_next aM_trace M_thrown M_status M_posts M_rounds M_read M_taped M_latest M_length M_at M_sort M_from M_till M_fault M_faultAt M_traced_6903 M_trace_6904 20 M_traced_6906 M_trace_6907 e6908) (cwV 1 hts gX7_sized_X7_began rfl rfl rfl (by decide +kernel) ⟨Nat.le_of_ble_eq_true rfl, Nat.le_of_ble_eq_true rfl⟩) hK hP hD hS hA [0, 2] [1] [1, 0, 2] 0 rfl rfl rfl rfl (by decide) rfl rfl rfl rfl rfl rfl hl.1 rfl (Nat.le_of_ble_eq_true rfl) dX7_sized_84 ⟨Nat.zero_le _, Nat.zero_le _⟩ (fun H locs hP hD hS => ?_)
      refine lv_iload_n hx hb dX7_sized_87 rfl (lv_at hl 0 rfl) ?_
      refine lv_iload_n hx hb dX7_sized_88 rfl (lv_at hl 2 rfl) ?_
      refine lv_iadd hx hb dX7_sized_89 ?_
      refine lv_bipush (v := 100) hx hb dX7_sized_90 (by decide) ?_
      refine lv_iadd hx hb dX7_sized_92 ?_
      obtain ⟨rfl, rfl, rfl⟩ := sj3 h
      exact hret _ _ _ _ _ rfl rfl hP hD hS dX7_sized_93
  have hC39 : ∀ (M_traced : Int32) (M_trace : Nat → Int32) (x1 : Int32) (x2 : Int32) (H : Heap) (locs : List Loc) (ls : Array Slot), fX7_sized_c39 M_posts M_beside M_traced M_trace x1 x2 = some (rr, M_traced_z, M_trace_z) → va_P (dC, dI) vwCl [(aM, .inr (7, [.int M_thrown, .int M_status, .ref aM_lane, .ref aM_many, .ref aM_item, .int M_posts, .ref aM_beside, .int M_rounds, .ref aM_round, .int M_read, .ref aM_reads, .ref aM_tape, .int M_taped, .int M_latest, .int M_length, .int M_at, .int M_sort, .int M_from, .int M_till, .int M_fault, .int M_faultAt, .ref aM_fewest, .ref aM_may, .ref aM_then, .ref aM_cases, .ref aM_next, .ref aM_trace, .int M_traced])), (aM_beside, .inl (cI, 8, .inl M_beside)), (aM_trace, .inl (cI, 16, .inl M_trace))] H → va_D A [(aM, .inr (7, [.int M_thrown, .int M_status, .ref aM_lane, .ref aM_many, .ref aM_item, .int M_posts, .ref aM_beside, .int M_rounds, .ref aM_round, .int M_read, .ref aM_reads, .ref aM_tape, .int M_taped, .int M_latest, .int M_length, .int M_at, .int M_sort, .int M_from, .int M_till, .int M_fault, .int M_faultAt, .ref aM_fewest, .ref aM_may, .ref aM_then, .ref aM_cases, .ref aM_next, .ref aM_trace, .int M_traced])), (aM_beside, .inl (cI, 8, .inl M_beside)), (aM_trace, .inl (cI, 16, .inl M_trace))] → va_S A s.heap H locs → lv_has ls 4 [(0, .ref aM), (1, .int x1), (2, .int x2)] → W p l e rmX7_sized s m args below meth c H locs 0 0 Q (F0 m 39 ls []) := by
    intro M_traced M_trace x1 x2 H locs ls h hP hD hS hl
    unfold fX7_sized_c39 at h
    refine lv_aload_n hx hb dX7_sized_39 rfl (lv_at hl 0 rfl) ?_
    refine lv_bipush (v := 10) hx hb dX7_sized_40 (by decide) ?_
    obtain ⟨M_traced_4001, M_trace_4002, e4003, h⟩ := bd2_s h
    refine kc_vv (rest := []) (wr := [(aM_beside, .inl (cI, 8, .inl M_beside))]) (wF := [(aM, .inr (7, [.int M_thrown, .int M_status, .ref aM_lane, .ref aM_many, .ref aM_item, .int M_posts, .ref aM_beside, .int M_rounds, .ref aM_round, .int M_read, .ref aM_reads, .ref aM_tape, .int M_taped, .int M_latest, .int M_length, .int M_at, .int M_sort, .int M_from, .int M_till, .int M_fault, .int M_faultAt, .ref aM_fewest, .ref aM_may, .ref aM_then, .ref aM_cases, .ref aM_next, .ref aM_trace, .int M_traced_4001])), (aM_beside, .inl (cI, 8, .inl M_beside)), (aM_trace, .inl (cI, 16, .inl M_trace_4002))]) ⟨hx, hb, hml, hown, hts⟩ (c_X7_began l dC dI cI cJ cZ cA aM aM_lane aM_many aM_item aM_beside aM_round aM_reads aM_tape aM_fewest aM_may aM_then aM_cases aM_next aM_trace M_thrown M_status M_posts M_rounds M_read M_taped M_latest M_length M_at M_sort M_from M_till M_fault M_faultAt M_traced M_trace 10 M_traced_4001 M_trace_4002 e4003) (cwV 1 hts gX7_sized_X7_began rfl rfl rfl (by decide +kernel) ⟨Nat.le_of_ble_eq_true rfl, Nat.le_of_ble_eq_true rfl⟩) hK hP hD hS hA [0, 2] [1] [1, 0, 2] 0 rfl rfl rfl rfl (by decide) rfl rfl rfl rfl rfl rfl hl.1 rfl (Nat.le_of_ble_eq_true rfl) dX7_sized_42 ⟨Nat.zero_le _, Nat.zero_le _⟩ (fun H locs hP hD hS => ?_)
    refine lv_aload_n hx hb dX7_sized_45 rfl (lv_at hl 0 rfl) ?_
    refine ka_get (v := .ref aM_beside) (C := RX7) (T := TX7) (Nf := 28) (ref := "BeepNetModel") hx hb hts hiX7 hown hK hP 0 rfl rfl 6 (by decide) k_0 rfl rfl dX7_sized_46 ?_
    refine lv_iload_n hx hb dX7_sized_49 rfl (lv_at hl 1 rfl) ?_
    obtain ⟨v4004, ev4004, hn4005, h⟩ := ldx_s h
    refine ka_ild hx hb hK hP 1 0 ev4004 rfl rfl hn4005 dX7_sized_50 ?_
    obtain ⟨r4006, e4007, h⟩ := bd1_s h
    refine kc_si (rest := []) (wr := [(aM, .inr (7, [.int M_thrown, .int M_status, .ref aM_lane, .ref aM_many, .ref aM_item, .int M_posts, .ref aM_beside, .int M_rounds, .ref aM_round, .int M_read, .ref aM_reads, .ref aM_tape, .int M_taped, .int M_latest, .int M_length, .int M_at, .int M_sort, .int M_from, .int M_till, .int M_fault, .int M_faultAt, .ref aM_fewest, .ref aM_may, .ref aM_then, .ref aM_cases, .ref aM_next, .ref aM_trace, .int M_traced_4001])), (aM_beside, .inl (cI, 8, .inl M_beside)), (aM_trace, .inl (cI, 16, .inl M_trace_4002))]) (wF := [(aM, .inr (7, [.int M_thrown, .int M_status, .ref aM_lane, .ref aM_many, .ref aM_item, .int M_posts, .ref aM_beside, .int M_rounds, .ref aM_round, .int M_read, .ref aM_reads, .ref aM_tape, .int M_taped, .int M_latest, .int M_length, .int M_at, .int M_sort, .int M_from, .int M_till, .int M_fault, .int M_faultAt, .ref aM_fewest, .ref aM_may, .ref aM_then, .ref aM_cases, .ref aM_next, .ref aM_trace, .int M_traced_4001])), (aM_beside, .inl (cI, 8, .inl M_beside)), (aM_trace, .inl (cI, 16, .inl M_trace_4002))]) ⟨hx, hb, hml, hown, hts⟩ (c_X7_size l dC dI cI cJ cZ cA v4004 r4006 e4007) (va_cwS 1 hts gX7_sized_X7_size rfl rfl rfl (by decide +kernel) ⟨Nat.le_of_ble_eq_true rfl, Nat.le_of_ble_eq_true rfl⟩) hK hP hD hS hA [] [0, 1, 2] [0, 1, 2] rfl rfl rfl rfl (by decide) rfl rfl rfl hl.1 rfl (Nat.le_of_ble_eq_true rfl) dX7_sized_51 ⟨Nat.zero_le _, Nat.zero_le _⟩ (fun H locs hP hD hS => ?_)
    refine lv_iload_n hx hb dX7_sized_54 rfl (lv_at hl 2 rfl) ?_
    refine lv_iconst (v := 4) hx hb dX7_sized_55 (by decide) ?_
    refine lv_icmp_ne (tgt := 63) hx hb dX7_sized_56 (by decide) (fun c4008 => ?_) (fun c4008 => ?_)
    · have h := ifn c4008 h
      refine lv_aload_n hx hb dX7_sized_63 rfl (lv_at hl 0 rfl) ?_
      refine lv_iload_n hx hb dX7_sized_64 rfl (lv_at hl 1 rfl) ?_
      obtain ⟨r4009, e4010, h⟩ := bd1_s h
      refine kc_vi (rest := [.int r4006]) (wr := [(aM_trace, .inl (cI, 16, .inl M_trace_4002))]) (wF := [(aM, .inr (7, [.int M_thrown, .int M_status, .ref aM_lane, .ref aM_many, .ref aM_item, .int M_posts, .ref aM_beside, .int M_rounds, .ref aM_round, .int M_read, .ref aM_reads, .ref aM_tape, .int M_taped, .int M_latest, .int M_length, .int M_at, .int M_sort, .int M_from, .int M_till, .int M_fault, .int M_faultAt, .ref aM_fewest, .ref aM_may, .ref aM_then, .ref aM_cases, .ref aM_next, .ref aM_trace, .int M_traced_4001])), (aM_beside, .inl (cI, 8, .inl M_beside)), (aM_trace, .inl (cI, 16, .inl M_trace_4002))]) ⟨hx, hb, hml, hown, hts⟩ (c_X7_widthOf l dC dI cI cJ cZ cA aM aM_lane aM_many aM_item aM_beside aM_round aM_reads aM_tape aM_fewest aM_may aM_then aM_cases aM_next aM_trace M_thrown M_status M_posts M_rounds M_read M_taped M_latest M_length M_at M_sort M_from M_till M_fault M_faultAt M_traced_4001 M_beside x1 r4009 e4010) (cwV 1 hts gX7_sized_X7_widthOf rfl rfl rfl (by decide +kernel) ⟨Nat.le_of_ble_eq_true rfl, Nat.le_of_ble_eq_true rfl⟩) hK hP hD hS hA [0, 1] [2] [1, 2, 0] 0 rfl rfl rfl rfl (by decide) rfl rfl rfl rfl rfl rfl hl.1 rfl (Nat.le_of_ble_eq_true rfl) dX7_sized_65 ⟨Nat.zero_le _, Nat.zero_le _⟩ (fun H locs hP hD hS => ?_)
      exact hC68 M_traced_4001 M_trace_4002 x1 x2 r4006 r4009 _ _ _ h hP hD hS (lv_sub hl [0, 1, 2] rfl)
    · have h := ift c4008 h
      refine lv_iconst (v := 0) hx hb dX7_sized_59 (by decide) ?_
      refine lv_goto (tgt := 68) hx hb dX7_sized_60 (by decide) ?_
      exact hC68 M_traced_4001 M_trace_4002 x1 x2 r4006 0 _ _ _ h hP hD hS (lv_sub hl [0, 1, 2] rfl)
  have hC28 : ∀ (M_traced : Int32) (M_trace : Nat → Int32) (x1 : Int32) (x2 : Int32) (H : Heap) (locs : List Loc) (ls : Array Slot), fX7_sized_c28 M_posts M_beside M_traced M_trace x1 x2 = some (rr, M_traced_z, M_trace_z) → va_P (dC, dI) vwCl [(aM, .inr (7, [.int M_thrown, .int M_status, .ref aM_lane, .ref aM_many, .ref aM_item, .int M_posts, .ref aM_beside, .int M_rounds, .ref aM_round, .int M_read, .ref aM_reads, .ref aM_tape, .int M_taped, .int M_latest, .int M_length, .int M_at, .int M_sort, .int M_from, .int M_till, .int M_fault, .int M_faultAt, .ref aM_fewest, .ref aM_may, .ref aM_then, .ref aM_cases, .ref aM_next, .ref aM_trace, .int M_traced])), (aM_beside, .inl (cI, 8, .inl M_beside)), (aM_trace, .inl (cI, 16, .inl M_trace))] H → va_D A [(aM, .inr (7, [.int M_thrown, .int M_status, .ref aM_lane, .ref aM_many, .ref aM_item, .int M_posts, .ref aM_beside, .int M_rounds, .ref aM_round, .int M_read, .ref aM_reads, .ref aM_tape, .int M_taped, .int M_latest, .int M_length, .int M_at, .int M_sort, .int M_from, .int M_till, .int M_fault, .int M_faultAt, .ref aM_fewest, .ref aM_may, .ref aM_then, .ref aM_cases, .ref aM_next, .ref aM_trace, .int M_traced])), (aM_beside, .inl (cI, 8, .inl M_beside)), (aM_trace, .inl (cI, 16, .inl M_trace))] → va_S A s.heap H locs → lv_has ls 4 [(0, .ref aM), (1, .int x1), (2, .int x2)] → W p l e rmX7_sized s m args below meth c H locs 0 0 Q (F0 m 28 ls []) := by
    intro M_traced M_trace x1 x2 H locs ls h hP hD hS hl
    unfold fX7_sized_c28 at h
    refine lv_iload_n hx hb dX7_sized_28 rfl (lv_at hl 2 rfl) ?_
    refine lv_iconst (v := 4) hx hb dX7_sized_29 (by decide) ?_
    refine lv_icmp_eq (tgt := 39) hx hb dX7_sized_30 (by decide) (fun c2901 => ?_) (fun c2901 => ?_)
    · have h := ift c2901 h
      exact hC39 M_traced M_trace x1 x2 _ _ _ h hP hD hS (lv_sub hl [0, 1, 2] rfl)
    · have h := ifn c2901 h
      refine lv_aload_n hx hb dX7_sized_33 rfl (lv_at hl 0 rfl) ?_
      refine lv_bipush (v := 11) hx hb dX7_sized_34 (by decide) ?_
      obtain ⟨M_traced_2902, M_trace_2903, e2904, h⟩ := bd2_s h
      refine kc_vv (rest := []) (wr := [(aM_beside, .inl (cI, 8, .inl M_beside))]) (wF := [(aM, .inr (7, [.int M_thrown, .int M_status, .ref aM_lane, .ref aM_many, .ref aM_item, .int M_posts, .ref aM_beside, .int M_rounds, .ref aM_round, .int M_read, .ref aM_reads, .ref aM_tape, .int M_taped, .int M_latest, .int M_length, .int M_at, .int M_sort, .int M_from, .int M_till, .int M_fault, .int M_faultAt, .ref aM_fewest, .ref aM_may, .ref aM_then, .ref aM_cases, .ref aM_next, .ref aM_trace, .int M_traced_2902])), (aM_beside, .inl (cI, 8, .inl M_beside)), (aM_trace, .inl (cI, 16, .inl M_trace_2903))]) ⟨hx, hb, hml, hown, hts⟩ (c_X7_began l dC dI cI cJ cZ cA aM aM_lane aM_many aM_item aM_beside aM_round aM_reads aM_tape aM_fewest aM_may aM_then aM_cases aM_next aM_trace M_thrown M_status M_posts M_rounds M_read M_taped M_latest M_length M_at M_sort M_from M_till M_fault M_faultAt M_traced M_trace 11 M_traced_2902 M_trace_2903 e2904) (cwV 1 hts gX7_sized_X7_began rfl rfl rfl (by decide +kernel) ⟨Nat.le_of_ble_eq_true rfl, Nat.le_of_ble_eq_true rfl⟩) hK hP hD hS hA [0, 2] [1] [1, 0, 2] 0 rfl rfl rfl rfl (by decide) rfl rfl rfl rfl rfl rfl hl.1 rfl (Nat.le_of_ble_eq_true rfl) dX7_sized_36 ⟨Nat.zero_le _, Nat.zero_le _⟩ (fun H locs hP hD hS => ?_)
      exact hC39 M_traced_2902 M_trace_2903 x1 x2 _ _ _ h hP hD hS (lv_sub hl [0, 1, 2] rfl)
  have hC17 : ∀ (M_traced : Int32) (M_trace : Nat → Int32) (x1 : Int32) (x2 : Int32) (H : Heap) (locs : List Loc) (ls : Array Slot), fX7_sized_c17 M_posts M_beside M_traced M_trace x1 x2 = some (rr, M_traced_z, M_trace_z) → va_P (dC, dI) vwCl [(aM, .inr (7, [.int M_thrown, .int M_status, .ref aM_lane, .ref aM_many, .ref aM_item, .int M_posts, .ref aM_beside, .int M_rounds, .ref aM_round, .int M_read, .ref aM_reads, .ref aM_tape, .int M_taped, .int M_latest, .int M_length, .int M_at, .int M_sort, .int M_from, .int M_till, .int M_fault, .int M_faultAt, .ref aM_fewest, .ref aM_may, .ref aM_then, .ref aM_cases, .ref aM_next, .ref aM_trace, .int M_traced])), (aM_beside, .inl (cI, 8, .inl M_beside)), (aM_trace, .inl (cI, 16, .inl M_trace))] H → va_D A [(aM, .inr (7, [.int M_thrown, .int M_status, .ref aM_lane, .ref aM_many, .ref aM_item, .int M_posts, .ref aM_beside, .int M_rounds, .ref aM_round, .int M_read, .ref aM_reads, .ref aM_tape, .int M_taped, .int M_latest, .int M_length, .int M_at, .int M_sort, .int M_from, .int M_till, .int M_fault, .int M_faultAt, .ref aM_fewest, .ref aM_may, .ref aM_then, .ref aM_cases, .ref aM_next, .ref aM_trace, .int M_traced])), (aM_beside, .inl (cI, 8, .inl M_beside)), (aM_trace, .inl (cI, 16, .inl M_trace))] → va_S A s.heap H locs → lv_has ls 4 [(0, .ref aM), (1, .int x1), (2, .int x2)] → W p l e rmX7_sized s m args below meth c H locs 0 0 Q (F0 m 17 ls []) := by
    intro M_traced M_trace x1 x2 H locs ls h hP hD hS hl
    unfold fX7_sized_c17 at h
    refine lv_iload_n hx hb dX7_sized_17 rfl (lv_at hl 2 rfl) ?_
    refine lv_iconst (v := 3) hx hb dX7_sized_18 (by decide) ?_
    refine lv_icmp_ne (tgt := 28) hx hb dX7_sized_19 (by decide) (fun c1801 => ?_) (fun c1801 => ?_)
    · have h := ifn c1801 h
      exact hC28 M_traced M_trace x1 x2 _ _ _ h hP hD hS (lv_sub hl [0, 1, 2] rfl)
    · have h := ift c1801 h
      refine lv_aload_n hx hb dX7_sized_22 rfl (lv_at hl 0 rfl) ?_
      refine lv_bipush (v := 13) hx hb dX7_sized_23 (by decide) ?_
      obtain ⟨M_traced_1802, M_trace_1803, e1804, h⟩ := bd2_s h
      refine kc_vv (rest := []) (wr := [(aM_beside, .inl (cI, 8, .inl M_beside))]) (wF := [(aM, .inr (7, [.int M_thrown, .int M_status, .ref aM_lane, .ref aM_many, .ref aM_item, .int M_posts, .ref aM_beside, .int M_rounds, .ref aM_round, .int M_read, .ref aM_reads, .ref aM_tape, .int M_taped, .int M_latest, .int M_length, .int M_at, .int M_sort, .int M_from, .int M_till, .int M_fault, .int M_faultAt, .ref aM_fewest, .ref aM_may, .ref aM_then, .ref aM_cases, .ref aM_next, .ref aM_trace, .int M_traced_1802])), (aM_beside, .inl (cI, 8, .inl M_beside)), (aM_trace, .inl (cI, 16, .inl M_trace_1803))]) ⟨hx, hb, hml, hown, hts⟩ (c_X7_began l dC dI cI cJ cZ cA aM aM_lane aM_many aM_item aM_beside aM_round aM_reads aM_tape aM_fewest aM_may aM_then aM_cases aM_next aM_trace M_thrown M_status M_posts M_rounds M_read M_taped M_latest M_length M_at M_sort M_from M_till M_fault M_faultAt M_traced M_trace 13 M_traced_1802 M_trace_1803 e1804) (cwV 1 hts gX7_sized_X7_began rfl rfl rfl (by decide +kernel) ⟨Nat.le_of_ble_eq_true rfl, Nat.le_of_ble_eq_true rfl⟩) hK hP hD hS hA [0, 2] [1] [1, 0, 2] 0 rfl rfl rfl rfl (by decide) rfl rfl rfl rfl rfl rfl hl.1 rfl (Nat.le_of_ble_eq_true rfl) dX7_sized_25 ⟨Nat.zero_le _, Nat.zero_le _⟩ (fun H locs hP hD hS => ?_)
      exact hC28 M_traced_1802 M_trace_1803 x1 x2 _ _ _ h hP hD hS (lv_sub hl [0, 1, 2] rfl)
  unfold fX7_sized at h
  refine lv_aload_n hx hb dX7_sized_0 rfl (lv_at hl 0 rfl) ?_
  refine lv_iload_n hx hb dX7_sized_1 rfl (lv_at hl 1 rfl) ?_
  obtain ⟨r1, e2, h⟩ := bd1_s h
  refine kc_vi (rest := []) (wr := [(aM_trace, .inl (cI, 16, .inl M_trace))]) (wF := [(aM, .inr (7, [.int M_thrown, .int M_status, .ref aM_lane, .ref aM_many, .ref aM_item, .int M_posts, .ref aM_beside, .int M_rounds, .ref aM_round, .int M_read, .ref aM_reads, .ref aM_tape, .int M_taped, .int M_latest, .int M_length, .int M_at, .int M_sort, .int M_from, .int M_till, .int M_fault, .int M_faultAt, .ref aM_fewest, .ref aM_may, .ref aM_then, .ref aM_cases, .ref aM_next, .ref aM_trace, .int M_traced])), (aM_beside, .inl (cI, 8, .inl M_beside)), (aM_trace, .inl (cI, 16, .inl M_trace))]) ⟨hx, hb, hml, hown, hts⟩ (c_X7_kindOf l dC dI cI cJ cZ cA aM aM_lane aM_many aM_item aM_beside aM_round aM_reads aM_tape aM_fewest aM_may aM_then aM_cases aM_next aM_trace M_thrown M_status M_posts M_rounds M_read M_taped M_latest M_length M_at M_sort M_from M_till M_fault M_faultAt M_traced M_beside p0 r1 e2) (cwV 1 hts gX7_sized_X7_kindOf rfl rfl rfl (by decide +kernel) ⟨Nat.le_of_ble_eq_true rfl, Nat.le_of_ble_eq_true rfl⟩) hK hP hD hS hA [0, 1] [2] [1, 2, 0] 0 rfl rfl rfl rfl (by decide) rfl rfl rfl rfl rfl rfl hl.1 rfl (Nat.le_of_ble_eq_true rfl) dX7_sized_2 ⟨Nat.zero_le _, Nat.zero_le _⟩ (fun H locs hP hD hS => ?_)
  refine lv_istore_n (lv' := [(2, .int r1), (0, .ref aM), (1, .int p0)]) hx hb dX7_sized_5 rfl hl (by decide) rfl (fun ls hl => ?_)
  refine lv_iload_n hx hb dX7_sized_6 rfl (lv_at hl 0 rfl) ?_
  refine lv_iconst (v := 2) hx hb dX7_sized_7 (by decide) ?_
  refine lv_icmp_ne (tgt := 17) hx hb dX7_sized_8 (by decide) (fun c3 => ?_) (fun c3 => ?_)
  · have h := ifn c3 h
    exact hC17 M_traced M_trace p0 r1 _ _ _ h hP hD hS (lv_sub hl [1, 2, 0] rfl)
  · have h := ift c3 h
    refine lv_aload_n hx hb dX7_sized_11 rfl (lv_at hl 1 rfl) ?_
    refine lv_bipush (v := 12) hx hb dX7_sized_12 (by decide) ?_
    obtain ⟨M_traced_4, M_trace_5, e6, h⟩ := bd2_s h
    refine kc_vv (rest := []) (wr := [(aM_beside, .inl (cI, 8, .inl M_beside))]) (wF := [(aM, .inr (7, [.int M_thrown, .int M_status, .ref aM_lane, .ref aM_many, .ref aM_item, .int M_posts, .ref aM_beside, .int M_rounds, .ref aM_round, .int M_read, .ref aM_reads, .ref aM_tape, .int M_taped, .int M_latest, .int M_length, .int M_at, .int M_sort, .int M_from, .int M_till, .int M_fault, .int M_faultAt, .ref aM_fewest, .ref aM_may, .ref aM_then, .ref aM_cases, .ref aM_next, .ref aM_trace, .int M_traced_4])), (aM_beside, .inl (cI, 8, .inl M_beside)), (aM_trace, .inl (cI, 16, .inl M_trace_5))]) ⟨hx, hb, hml, hown, hts⟩ (c_X7_began l dC dI cI cJ cZ cA aM aM_lane aM_many aM_item aM_beside aM_round aM_reads aM_tape aM_fewest aM_may aM_then aM_cases aM_next aM_trace M_thrown M_status M_posts M_rounds M_read M_taped M_latest M_length M_at M_sort M_from M_till M_fault M_faultAt M_traced M_trace 12 M_traced_4 M_trace_5 e6) (cwV 1 hts gX7_sized_X7_began rfl rfl rfl (by decide +kernel) ⟨Nat.le_of_ble_eq_true rfl, Nat.le_of_ble_eq_true rfl⟩) hK hP hD hS hA [0, 2] [1] [1, 0, 2] 0 rfl rfl rfl rfl (by decide) rfl rfl rfl rfl rfl rfl hl.1 rfl (Nat.le_of_ble_eq_true rfl) dX7_sized_14 ⟨Nat.zero_le _, Nat.zero_le _⟩ (fun H locs hP hD hS => ?_)
    exact hC17 M_traced_4 M_trace_5 p0 r1 _ _ _ h hP hD hS (lv_sub hl [1, 2, 0] rfl)
set_option maxHeartbeats 4000000 in
set_option maxRecDepth 100000 in
theorem c_X7_marked (l : Launch) (dC : Nat → ClassId) (dI : Nat → Nat → Nat) (cI cJ cZ cA : ClassId) (aM aM_lane aM_many aM_item aM_beside aM_round aM_reads aM_tape aM_fewest aM_may aM_then aM_cases aM_next aM_trace : Nat) (M_thrown : Int32) (M_status : Int32) (M_posts : Int32) (M_rounds : Int32) (M_read : Int32) (M_taped : Int32) (M_latest : Int32) (M_length : Int32) (M_at : Int32) (M_sort : Int32) (M_from : Int32) (M_till : Int32) (M_fault : Int32) (M_faultAt : Int32) (M_traced : Int32) (M_beside : Nat → Int32) (M_trace : Nat → Int32) (p0 : Int32) (rr : Int32) (M_traced_z : Int32) (M_trace_z : Nat → Int32) (h : fX7_marked M_posts M_traced M_beside M_trace p0 = some (rr, M_traced_z, M_trace_z)) : Cti l yX7_marked wsX7_marked rmX7_marked (dC, dI) (tyL cI cJ cZ cA) [(aM, .inr (7, [.int M_thrown, .int M_status, .ref aM_lane, .ref aM_many, .ref aM_item, .int M_posts, .ref aM_beside, .int M_rounds, .ref aM_round, .int M_read, .ref aM_reads, .ref aM_tape, .int M_taped, .int M_latest, .int M_length, .int M_at, .int M_sort, .int M_from, .int M_till, .int M_fault, .int M_faultAt, .ref aM_fewest, .ref aM_may, .ref aM_then, .ref aM_cases, .ref aM_next, .ref aM_trace, .int M_traced])), (aM_beside, .inl (cI, 8, .inl M_beside)), (aM_trace, .inl (cI, 16, .inl M_trace))] [(aM, .inr (7, [.int M_thrown, .int M_status, .ref aM_lane, .ref aM_many, .ref aM_item, .int M_posts, .ref aM_beside, .int M_rounds, .ref aM_round, .int M_read, .ref aM_reads, .ref aM_tape, .int M_taped, .int M_latest, .int M_length, .int M_at, .int M_sort, .int M_from, .int M_till, .int M_fault, .int M_faultAt, .ref aM_fewest, .ref aM_may, .ref aM_then, .ref aM_cases, .ref aM_next, .ref aM_trace, .int M_traced_z])), (aM_beside, .inl (cI, 8, .inl M_beside)), (aM_trace, .inl (cI, 16, .inl M_trace_z))] [.ref aM, .int p0] rr := by
  refine ct_int (ty := .int) (cc := cX7_marked) (maxL := 3) (by decide) rfl (Nat.le_of_ble_eq_true rfl) ?_
  intro p e s m args below meth c A Q ls hx hb hml hown hts hA hK hP hD hS hl hret
  have hl : lv_has ls 3 [(0, .ref aM), (1, .int p0)] := hl
  have hC28 : ∀ (M_traced : Int32) (M_trace : Nat → Int32) (x1 : Int32) (x2 : Int32) (H : Heap) (locs : List Loc) (ls : Array Slot), fX7_marked_c28 M_posts M_beside M_traced M_trace x1 x2 = some (rr, M_traced_z, M_trace_z) → va_P (dC, dI) vwCl [(aM, .inr (7, [.int M_thrown, .int M_status, .ref aM_lane, .ref aM_many, .ref aM_item, .int M_posts, .ref aM_beside, .int M_rounds, .ref aM_round, .int M_read, .ref aM_reads, .ref aM_tape, .int M_taped, .int M_latest, .int M_length, .int M_at, .int M_sort, .int M_from, .int M_till, .int M_fault, .int M_faultAt, .ref aM_fewest, .ref aM_may, .ref aM_then, .ref aM_cases, .ref aM_next, .ref aM_trace, .int M_traced])), (aM_beside, .inl (cI, 8, .inl M_beside)), (aM_trace, .inl (cI, 16, .inl M_trace))] H → va_D A [(aM, .inr (7, [.int M_thrown, .int M_status, .ref aM_lane, .ref aM_many, .ref aM_item, .int M_posts, .ref aM_beside, .int M_rounds, .ref aM_round, .int M_read, .ref aM_reads, .ref aM_tape, .int M_taped, .int M_latest, .int M_length, .int M_at, .int M_sort, .int M_from, .int M_till, .int M_fault, .int M_faultAt, .ref aM_fewest, .ref aM_may, .ref aM_then, .ref aM_cases, .ref aM_next, .ref aM_trace, .int M_traced])), (aM_beside, .inl (cI, 8, .inl M_beside)), (aM_trace, .inl (cI, 16, .inl M_trace))] → va_S A s.heap H locs → lv_has ls 3 [(0, .ref aM), (1, .int x1), (2, .int x2)] → W p l e rmX7_marked s m args below meth c H locs 0 0 Q (F0 m 28 ls []) := by
    intro M_traced M_trace x1 x2 H locs ls h hP hD hS hl
    unfold fX7_marked_c28 at h
    refine lv_aload_n hx hb dX7_marked_28 rfl (lv_at hl 0 rfl) ?_
    refine lv_bipush (v := 20) hx hb dX7_marked_29 (by decide) ?_
    obtain ⟨M_traced_2901, M_trace_2902, e2903, h⟩ := bd2_s h
    refine kc_vv (rest := []) (wr := [(aM_beside, .inl (cI, 8, .inl M_beside))]) (wF := [(aM, .inr (7, [.int M_thrown, .int M_status, .ref aM_lane, .ref aM_many, .ref aM_item, .int M_posts, .ref aM_beside, .int M_rounds, .ref aM_round, .int M_read, .ref aM_reads, .ref aM_tape, .int M_taped, .int M_latest, .int M_length, .int M_at, .int M_sort, .int M_from, .int M_till, .int M_fault, .int M_faultAt, .ref aM_fewest, .ref aM_may, .ref aM_then, .ref aM_cases, .ref aM_next, .ref aM_trace, .int M_traced_2901])), (aM_beside, .inl (cI, 8, .inl M_beside)), (aM_trace, .inl (cI, 16, .inl M_trace_2902))]) ⟨hx, hb, hml, hown, hts⟩ (c_X7_began l dC dI cI cJ cZ cA aM aM_lane aM_many aM_item aM_beside aM_round aM_reads aM_tape aM_fewest aM_may aM_then aM_cases aM_next aM_trace M_thrown M_status M_posts M_rounds M_read M_taped M_latest M_length M_at M_sort M_from M_till M_fault M_faultAt M_traced M_trace 20 M_traced_2901 M_trace_2902 e2903) (cwV 1 hts gX7_marked_X7_began rfl rfl rfl (by decide +kernel) ⟨Nat.le_of_ble_eq_true rfl, Nat.le_of_ble_eq_true rfl⟩) hK hP hD hS hA [0, 2] [1] [1, 0, 2] 0 rfl rfl rfl rfl (by decide) rfl rfl rfl rfl rfl rfl hl.1 rfl (Nat.le_of_ble_eq_true rfl) dX7_marked_31 ⟨Nat.zero_le _, Nat.zero_le _⟩ (fun H locs hP hD hS => ?_)
    refine lv_iload_n hx hb dX7_marked_34 rfl (lv_at hl 1 rfl) ?_
    refine lv_iload_n hx hb dX7_marked_35 rfl (lv_at hl 2 rfl) ?_
    refine lv_iconst (v := 3) hx hb dX7_marked_36 (by decide) ?_
    refine lv_icmp_ne (tgt := 45) hx hb dX7_marked_37 (by decide) (fun c2904 => ?_) (fun c2904 => ?_)
    · have h := ifn c2904 h
      refine lv_iload_n hx hb dX7_marked_45 rfl (lv_at hl 2 rfl) ?_
      refine lv_iconst (v := 4) hx hb dX7_marked_46 (by decide) ?_
      refine lv_icmp_ne (tgt := 58) hx hb dX7_marked_47 (by decide) (fun c2905 => ?_) (fun c2905 => ?_)
      · have h := ifn c2905 h
        refine lv_iconst (v := 0) hx hb dX7_marked_58 (by decide) ?_
        refine lv_iadd hx hb dX7_marked_59 ?_
        obtain ⟨rfl, rfl, rfl⟩ := sj3 h
        exact hret _ _ _ _ _ rfl rfl hP hD hS dX7_marked_60
      · have h := ift c2905 h
        refine lv_aload_n hx hb dX7_marked_50 rfl (lv_at hl 0 rfl) ?_
        refine lv_iload_n hx hb dX7_marked_51 rfl (lv_at hl 1 rfl) ?_
        obtain ⟨r2906, M_traced_2907, M_trace_2908, e2909, h⟩ := bd3_s h
        refine kc_vi (rest := [.int x1]) (wr := []) (wF := [(aM, .inr (7, [.int M_thrown, .int M_status, .ref aM_lane, .ref aM_many, .ref aM_item, .int M_posts, .ref aM_beside, .int M_rounds, .ref aM_round, .int M_read, .ref aM_reads, .ref aM_tape, .int M_taped, .int M_latest, .int M_length, .int M_at, .int M_sort, .int M_from, .int M_till, .int M_fault, .int M_faultAt, .ref aM_fewest, .ref aM_may, .ref aM_then, .ref aM_cases, .ref aM_next, .ref aM_trace, .int M_traced_2907])), (aM_beside, .inl (cI, 8, .inl M_beside)), (aM_trace, .inl (cI, 16, .inl M_trace_2908))]) ⟨hx, hb, hml, hown, hts⟩ (c_X7_sized l dC dI cI cJ cZ cA aM aM_lane aM_many aM_item aM_beside aM_round aM_reads aM_tape aM_fewest aM_may aM_then aM_cases aM_next aM_trace M_thrown M_status M_posts M_rounds M_read M_taped M_latest M_length M_at M_sort M_from M_till M_fault M_faultAt M_traced_2901 M_beside M_trace_2902 x1 r2906 M_traced_2907 M_trace_2908 e2909) (cwV 1 hts gX7_marked_X7_sized rfl rfl rfl (by decide +kernel) ⟨Nat.le_of_ble_eq_true rfl, Nat.le_of_ble_eq_true rfl⟩) hK hP hD hS hA [0, 1, 2] [] [0, 1, 2] 0 rfl rfl rfl rfl (by decide) rfl rfl rfl rfl rfl rfl hl.1 rfl (Nat.le_of_ble_eq_true rfl) dX7_marked_52 ⟨Nat.zero_le _, Nat.zero_le _⟩ (fun H locs hP hD hS => ?_)
        refine lv_goto (tgt := 59) hx hb dX7_marked_55 (by decide) ?_
        refine lv_iadd hx hb dX7_marked_59 ?_
        obtain ⟨rfl, rfl, rfl⟩ := sj3 h
        exact hret _ _ _ _ _ rfl rfl hP hD hS dX7_marked_60
    · have h := ift c2904 h
      refine lv_bipush (v := 100) hx hb dX7_marked_40 (by decide) ?_
      refine lv_goto (tgt := 59) hx hb dX7_marked_42 (by decide) ?_
      refine lv_iadd hx hb dX7_marked_59 ?_
      obtain ⟨rfl, rfl, rfl⟩ := sj3 h
      exact hret _ _ _ _ _ rfl rfl hP hD hS dX7_marked_60
  have hC17 : ∀ (M_traced : Int32) (M_trace : Nat → Int32) (x1 : Int32) (x2 : Int32) (H : Heap) (locs : List Loc) (ls : Array Slot), fX7_marked_c17 M_posts M_beside M_traced M_trace x1 x2 = some (rr, M_traced_z, M_trace_z) → va_P (dC, dI) vwCl [(aM, .inr (7, [.int M_thrown, .int M_status, .ref aM_lane, .ref aM_many, .ref aM_item, .int M_posts, .ref aM_beside, .int M_rounds, .ref aM_round, .int M_read, .ref aM_reads, .ref aM_tape, .int M_taped, .int M_latest, .int M_length, .int M_at, .int M_sort, .int M_from, .int M_till, .int M_fault, .int M_faultAt, .ref aM_fewest, .ref aM_may, .ref aM_then, .ref aM_cases, .ref aM_next, .ref aM_trace, .int M_traced])), (aM_beside, .inl (cI, 8, .inl M_beside)), (aM_trace, .inl (cI, 16, .inl M_trace))] H → va_D A [(aM, .inr (7, [.int M_thrown, .int M_status, .ref aM_lane, .ref aM_many, .ref aM_item, .int M_posts, .ref aM_beside, .int M_rounds, .ref aM_round, .int M_read, .ref aM_reads, .ref aM_tape, .int M_taped, .int M_latest, .int M_length, .int M_at, .int M_sort, .int M_from, .int M_till, .int M_fault, .int M_faultAt, .ref aM_fewest, .ref aM_may, .ref aM_then, .ref aM_cases, .ref aM_next, .ref aM_trace, .int M_traced])), (aM_beside, .inl (cI, 8, .inl M_beside)), (aM_trace, .inl (cI, 16, .inl M_trace))] → va_S A s.heap H locs → lv_has ls 3 [(0, .ref aM), (1, .int x1), (2, .int x2)] → W p l e rmX7_marked s m args below meth c H locs 0 0 Q (F0 m 17 ls []) := by
    intro M_traced M_trace x1 x2 H locs ls h hP hD hS hl
    unfold fX7_marked_c17 at h
    refine lv_iload_n hx hb dX7_marked_17 rfl (lv_at hl 2 rfl) ?_
    refine lv_iconst (v := 4) hx hb dX7_marked_18 (by decide) ?_
    refine lv_icmp_ne (tgt := 28) hx hb dX7_marked_19 (by decide) (fun c1801 => ?_) (fun c1801 => ?_)
    · have h := ifn c1801 h
      exact hC28 M_traced M_trace x1 x2 _ _ _ h hP hD hS (lv_sub hl [0, 1, 2] rfl)
    · have h := ift c1801 h
      refine lv_aload_n hx hb dX7_marked_22 rfl (lv_at hl 0 rfl) ?_
      refine lv_bipush (v := 22) hx hb dX7_marked_23 (by decide) ?_
      obtain ⟨M_traced_1802, M_trace_1803, e1804, h⟩ := bd2_s h
      refine kc_vv (rest := []) (wr := [(aM_beside, .inl (cI, 8, .inl M_beside))]) (wF := [(aM, .inr (7, [.int M_thrown, .int M_status, .ref aM_lane, .ref aM_many, .ref aM_item, .int M_posts, .ref aM_beside, .int M_rounds, .ref aM_round, .int M_read, .ref aM_reads, .ref aM_tape, .int M_taped, .int M_latest, .int M_length, .int M_at, .int M_sort, .int M_from, .int M_till, .int M_fault, .int M_faultAt, .ref aM_fewest, .ref aM_may, .ref aM_then, .ref aM_cases, .ref aM_next, .ref aM_trace, .int M_traced_1802])), (aM_beside, .inl (cI, 8, .inl M_beside)), (aM_trace, .inl (cI, 16, .inl M_trace_1803))]) ⟨hx, hb, hml, hown, hts⟩ (c_X7_began l dC dI cI cJ cZ cA aM aM_lane aM_many aM_item aM_beside aM_round aM_reads aM_tape aM_fewest aM_may aM_then aM_cases aM_next aM_trace M_thrown M_status M_posts M_rounds M_read M_taped M_latest M_length M_at M_sort M_from M_till M_fault M_faultAt M_traced M_trace 22 M_traced_1802 M_trace_1803 e1804) (cwV 1 hts gX7_marked_X7_began rfl rfl rfl (by decide +kernel) ⟨Nat.le_of_ble_eq_true rfl, Nat.le_of_ble_eq_true rfl⟩) hK hP hD hS hA [0, 2] [1] [1, 0, 2] 0 rfl rfl rfl rfl (by decide) rfl rfl rfl rfl rfl rfl hl.1 rfl (Nat.le_of_ble_eq_true rfl) dX7_marked_25 ⟨Nat.zero_le _, Nat.zero_le _⟩ (fun H locs hP hD hS => ?_)
      exact hC28 M_traced_1802 M_trace_1803 x1 x2 _ _ _ h hP hD hS (lv_sub hl [0, 1, 2] rfl)
  unfold fX7_marked at h
  refine lv_aload_n hx hb dX7_marked_0 rfl (lv_at hl 0 rfl) ?_
  refine lv_iload_n hx hb dX7_marked_1 rfl (lv_at hl 1 rfl) ?_
  obtain ⟨r1, e2, h⟩ := bd1_s h
  refine kc_vi (rest := []) (wr := [(aM_trace, .inl (cI, 16, .inl M_trace))]) (wF := [(aM, .inr (7, [.int M_thrown, .int M_status, .ref aM_lane, .ref aM_many, .ref aM_item, .int M_posts, .ref aM_beside, .int M_rounds, .ref aM_round, .int M_read, .ref aM_reads, .ref aM_tape, .int M_taped, .int M_latest, .int M_length, .int M_at, .int M_sort, .int M_from, .int M_till, .int M_fault, .int M_faultAt, .ref aM_fewest, .ref aM_may, .ref aM_then, .ref aM_cases, .ref aM_next, .ref aM_trace, .int M_traced])), (aM_beside, .inl (cI, 8, .inl M_beside)), (aM_trace, .inl (cI, 16, .inl M_trace))]) ⟨hx, hb, hml, hown, hts⟩ (c_X7_kindOf l dC dI cI cJ cZ cA aM aM_lane aM_many aM_item aM_beside aM_round aM_reads aM_tape aM_fewest aM_may aM_then aM_cases aM_next aM_trace M_thrown M_status M_posts M_rounds M_read M_taped M_latest M_length M_at M_sort M_from M_till M_fault M_faultAt M_traced M_beside p0 r1 e2) (cwV 1 hts gX7_marked_X7_kindOf rfl rfl rfl (by decide +kernel) ⟨Nat.le_of_ble_eq_true rfl, Nat.le_of_ble_eq_true rfl⟩) hK hP hD hS hA [0, 1] [2] [1, 2, 0] 0 rfl rfl rfl rfl (by decide) rfl rfl rfl rfl rfl rfl hl.1 rfl (Nat.le_of_ble_eq_true rfl) dX7_marked_2 ⟨Nat.zero_le _, Nat.zero_le _⟩ (fun H locs hP hD hS => ?_)
  refine lv_istore_n (lv' := [(2, .int r1), (0, .ref aM), (1, .int p0)]) hx hb dX7_marked_5 rfl hl (by decide) rfl (fun ls hl => ?_)
  refine lv_iload_n hx hb dX7_marked_6 rfl (lv_at hl 0 rfl) ?_
  refine lv_iconst (v := 3) hx hb dX7_marked_7 (by decide) ?_
  refine lv_icmp_ne (tgt := 17) hx hb dX7_marked_8 (by decide) (fun c3 => ?_) (fun c3 => ?_)
  · have h := ifn c3 h
    exact hC17 M_traced M_trace p0 r1 _ _ _ h hP hD hS (lv_sub hl [1, 2, 0] rfl)
  · have h := ift c3 h
    refine lv_aload_n hx hb dX7_marked_11 rfl (lv_at hl 1 rfl) ?_
    refine lv_bipush (v := 21) hx hb dX7_marked_12 (by decide) ?_
    obtain ⟨M_traced_4, M_trace_5, e6, h⟩ := bd2_s h
    refine kc_vv (rest := []) (wr := [(aM_beside, .inl (cI, 8, .inl M_beside))]) (wF := [(aM, .inr (7, [.int M_thrown, .int M_status, .ref aM_lane, .ref aM_many, .ref aM_item, .int M_posts, .ref aM_beside, .int M_rounds, .ref aM_round, .int M_read, .ref aM_reads, .ref aM_tape, .int M_taped, .int M_latest, .int M_length, .int M_at, .int M_sort, .int M_from, .int M_till, .int M_fault, .int M_faultAt, .ref aM_fewest, .ref aM_may, .ref aM_then, .ref aM_cases, .ref aM_next, .ref aM_trace, .int M_traced_4])), (aM_beside, .inl (cI, 8, .inl M_beside)), (aM_trace, .inl (cI, 16, .inl M_trace_5))]) ⟨hx, hb, hml, hown, hts⟩ (c_X7_began l dC dI cI cJ cZ cA aM aM_lane aM_many aM_item aM_beside aM_round aM_reads aM_tape aM_fewest aM_may aM_then aM_cases aM_next aM_trace M_thrown M_status M_posts M_rounds M_read M_taped M_latest M_length M_at M_sort M_from M_till M_fault M_faultAt M_traced M_trace 21 M_traced_4 M_trace_5 e6) (cwV 1 hts gX7_marked_X7_began rfl rfl rfl (by decide +kernel) ⟨Nat.le_of_ble_eq_true rfl, Nat.le_of_ble_eq_true rfl⟩) hK hP hD hS hA [0, 2] [1] [1, 0, 2] 0 rfl rfl rfl rfl (by decide) rfl rfl rfl rfl rfl rfl hl.1 rfl (Nat.le_of_ble_eq_true rfl) dX7_marked_14 ⟨Nat.zero_le _, Nat.zero_le _⟩ (fun H locs hP hD hS => ?_)
    exact hC17 M_traced_4 M_trace_5 p0 r1 _ _ _ h hP hD hS (lv_sub hl [1, 2, 0] rfl)
set_option maxHeartbeats 4000000 in
set_option maxRecDepth 100000 in
theorem c_X7_ask (l : Launch) (dC : Nat → ClassId) (dI : Nat → Nat → Nat) (cI cJ cZ cA : ClassId) (aM aM_lane aM_many aM_item aM_beside aM_round aM_reads aM_tape aM_fewest aM_may aM_then aM_cases aM_next aM_trace : Nat) (M_thrown : Int32) (M_status : Int32) (M_posts : Int32) (M_rounds : Int32) (M_read : Int32) (M_taped : Int32) (M_latest : Int32) (M_length : Int32) (M_at : Int32) (M_sort : Int32) (M_from : Int32) (M_till : Int32) (M_fault : Int32) (M_faultAt : Int32) (M_traced : Int32) (M_beside : Nat → Int32) (M_trace : Nat → Int32) (p0 : Int32) (p1 : Int32) (rr : Int32) (M_thrown_z : Int32) (M_traced_z : Int32) (M_trace_z : Nat → Int32) (h : fX7_ask M_thrown M_posts M_traced M_beside M_trace p0 p1 = some (rr, M_thrown_z, M_traced_z, M_trace_z)) : Cti l yX7_ask wsX7_ask rmX7_ask (dC, dI) (tyL cI cJ cZ cA) [(aM, .inr (7, [.int M_thrown, .int M_status, .ref aM_lane, .ref aM_many, .ref aM_item, .int M_posts, .ref aM_beside, .int M_rounds, .ref aM_round, .int M_read, .ref aM_reads, .ref aM_tape, .int M_taped, .int M_latest, .int M_length, .int M_at, .int M_sort, .int M_from, .int M_till, .int M_fault, .int M_faultAt, .ref aM_fewest, .ref aM_may, .ref aM_then, .ref aM_cases, .ref aM_next, .ref aM_trace, .int M_traced])), (aM_beside, .inl (cI, 8, .inl M_beside)), (aM_trace, .inl (cI, 16, .inl M_trace))] [(aM, .inr (7, [.int M_thrown_z, .int M_status, .ref aM_lane, .ref aM_many, .ref aM_item, .int M_posts, .ref aM_beside, .int M_rounds, .ref aM_round, .int M_read, .ref aM_reads, .ref aM_tape, .int M_taped, .int M_latest, .int M_length, .int M_at, .int M_sort, .int M_from, .int M_till, .int M_fault, .int M_faultAt, .ref aM_fewest, .ref aM_may, .ref aM_then, .ref aM_cases, .ref aM_next, .ref aM_trace, .int M_traced_z])), (aM_beside, .inl (cI, 8, .inl M_beside)), (aM_trace, .inl (cI, 16, .inl M_trace_z))] [.ref aM, .int p0, .int p1] rr := by
  refine ct_int (ty := .int) (cc := cX7_ask) (maxL := 3) (by decide) rfl (Nat.le_of_ble_eq_true rfl) ?_
  intro p e s m args below meth c A Q ls hx hb hml hown hts hA hK hP hD hS hl hret
  have hl : lv_has ls 3 [(0, .ref aM), (1, .int p0), (2, .int p1)] := hl
  have k_0 := hts (.fieldLink RX7 51 "BeepNetModel" "thrown" "I") (by decide +kernel)
  have k_1 := hts (.constant RX7 71 (-1000001)) (by decide +kernel)
  have k_2 := hts (.fieldLink RX7 215 "BeepNetModel" "traced" "I") (by decide +kernel)
  have hiX7 : ∀ w ∈ u_ws RX7 TX7 28, w ∈ wsX7_ask := fun w hw => List.mem_cons_of_mem _ (List.mem_append_right _ hw)
  unfold fX7_ask at h
  refine lv_aload_n hx hb dX7_ask_0 rfl (lv_at hl 0 rfl) ?_
  refine lv_iconst (v := 0) hx hb dX7_ask_1 (by decide) ?_
  refine ka_put (w1 := [(aM, .inr (7, [.int 0, .int M_status, .ref aM_lane, .ref aM_many, .ref aM_item, .int M_posts, .ref aM_beside, .int M_rounds, .ref aM_round, .int M_read, .ref aM_reads, .ref aM_tape, .int M_taped, .int M_latest, .int M_length, .int M_at, .int M_sort, .int M_from, .int M_till, .int M_fault, .int M_faultAt, .ref aM_fewest, .ref aM_may, .ref aM_then, .ref aM_cases, .ref aM_next, .ref aM_trace, .int M_traced])), (aM_beside, .inl (cI, 8, .inl M_beside)), (aM_trace, .inl (cI, 16, .inl M_trace))]) (C := RX7) (T := TX7) (Nf := 28) (ref := "BeepNetModel") hx hb hts hiX7 tyX7 tyX7_ok nmX7 hown hK hP hD hS 0 rfl rfl 0 (by decide) k_0 rfl rfl rfl (Nat.le_of_ble_eq_true rfl) dX7_ask_2 rfl (fun H locs hP hD hS => ?_)
  refine lv_aload_n hx hb dX7_ask_5 rfl (lv_at hl 0 rfl) ?_
  refine lv_iload_n hx hb dX7_ask_6 rfl (lv_at hl 1 rfl) ?_
  obtain ⟨r1, e2, h⟩ := bd1_s h
  refine kc_vi (rest := []) (wr := [(aM_beside, .inl (cI, 8, .inl M_beside)), (aM_trace, .inl (cI, 16, .inl M_trace))]) (wF := [(aM, .inr (7, [.int 0, .int M_status, .ref aM_lane, .ref aM_many, .ref aM_item, .int M_posts, .ref aM_beside, .int M_rounds, .ref aM_round, .int M_read, .ref aM_reads, .ref aM_tape, .int M_taped, .int M_latest, .int M_length, .int M_at, .int M_sort, .int M_from, .int M_till, .int M_fault, .int M_faultAt, .ref aM_fewest, .ref aM_may, .ref aM_then, .ref aM_cases, .ref aM_next, .ref aM_trace, .int M_traced])), (aM_beside, .inl (cI, 8, .inl M_beside)), (aM_trace, .inl (cI, 16, .inl M_trace))]) ⟨hx, hb, hml, hown, hts⟩ (c_X7_isPost l dC dI cI cJ cZ cA aM aM_lane aM_many aM_item aM_beside aM_round aM_reads aM_tape aM_fewest aM_may aM_then aM_cases aM_next aM_trace 0 M_status M_posts M_rounds M_read M_taped M_latest M_length M_at M_sort M_from M_till M_fault M_faultAt M_traced p0 r1 e2) (cwV 1 hts gX7_ask_X7_isPost rfl rfl rfl (by decide +kernel) ⟨Nat.le_of_ble_eq_true rfl, Nat.le_of_ble_eq_true rfl⟩) hK hP hD hS hA [0] [1, 2] [2, 0, 1] 0 rfl rfl rfl rfl (by decide) rfl rfl rfl rfl rfl rfl hl.1 rfl (Nat.le_of_ble_eq_true rfl) dX7_ask_7 ⟨Nat.zero_le _, Nat.zero_le _⟩ (fun H locs hP hD hS => ?_)
  refine lv_if_eq (tgt := 23) hx hb dX7_ask_10 (by decide) (fun c3 => ?_) (fun c3 => ?_)
  · have h := ift c3 h
    refine lv_ldc hx hb hown k_1 dX7_ask_23 ?_
    obtain ⟨rfl, rfl, rfl, rfl⟩ := sj4 h
    exact hret _ _ _ _ _ rfl rfl hP hD hS dX7_ask_25
  · have h := ifn c3 h
    refine lv_iload_n hx hb dX7_ask_13 rfl (lv_at hl 2 rfl) ?_
    refine lv_i2l hx hb dX7_ask_14 rfl ?_
    refine lv_lconst (v := 0) hx hb dX7_ask_15 (by decide) ?_
    refine lv_lconst (v := 1) hx hb dX7_ask_16 (by decide) ?_
    obtain ⟨r4, e5, h⟩ := bd1_s h
    refine kc_si (rest := []) (wr := [(aM, .inr (7, [.int 0, .int M_status, .ref aM_lane, .ref aM_many, .ref aM_item, .int M_posts, .ref aM_beside, .int M_rounds, .ref aM_round, .int M_read, .ref aM_reads, .ref aM_tape, .int M_taped, .int M_latest, .int M_length, .int M_at, .int M_sort, .int M_from, .int M_till, .int M_fault, .int M_faultAt, .ref aM_fewest, .ref aM_may, .ref aM_then, .ref aM_cases, .ref aM_next, .ref aM_trace, .int M_traced])), (aM_beside, .inl (cI, 8, .inl M_beside)), (aM_trace, .inl (cI, 16, .inl M_trace))]) (wF := [(aM, .inr (7, [.int 0, .int M_status, .ref aM_lane, .ref aM_many, .ref aM_item, .int M_posts, .ref aM_beside, .int M_rounds, .ref aM_round, .int M_read, .ref aM_reads, .ref aM_tape, .int M_taped, .int M_latest, .int M_length, .int M_at, .int M_sort, .int M_from, .int M_till, .int M_fault, .int M_faultAt, .ref aM_fewest, .ref aM_may, .ref aM_then, .ref aM_cases, .ref aM_next, .ref aM_trace, .int M_traced])), (aM_beside, .inl (cI, 8, .inl M_beside)), (aM_trace, .inl (cI, 16, .inl M_trace))]) ⟨hx, hb, hml, hown, hts⟩ (c_X7_in l dC dI cI cJ cZ cA p1.toInt64 0 1 r4 e5) (va_cwS 3 hts gX7_ask_X7_in rfl rfl rfl (by decide +kernel) ⟨Nat.le_of_ble_eq_true rfl, Nat.le_of_ble_eq_true rfl⟩) hK hP hD hS hA [] [0, 1, 2] [0, 1, 2] rfl rfl rfl rfl (by decide) rfl rfl rfl hl.1 rfl (Nat.le_of_ble_eq_true rfl) dX7_ask_17 ⟨Nat.zero_le _, Nat.zero_le _⟩ (fun H locs hP hD hS => ?_)
    refine lv_if_ne (tgt := 26) hx hb dX7_ask_20 (by decide) (fun c6 => ?_) (fun c6 => ?_)
    · have h := ifn c6 h
      refine lv_aload_n hx hb dX7_ask_26 rfl (lv_at hl 0 rfl) ?_
      refine lv_iconst (v := 0) hx hb dX7_ask_27 (by decide) ?_
      refine ka_put (w1 := [(aM, .inr (7, [.int 0, .int M_status, .ref aM_lane, .ref aM_many, .ref aM_item, .int M_posts, .ref aM_beside, .int M_rounds, .ref aM_round, .int M_read, .ref aM_reads, .ref aM_tape, .int M_taped, .int M_latest, .int M_length, .int M_at, .int M_sort, .int M_from, .int M_till, .int M_fault, .int M_faultAt, .ref aM_fewest, .ref aM_may, .ref aM_then, .ref aM_cases, .ref aM_next, .ref aM_trace, .int 0])), (aM_beside, .inl (cI, 8, .inl M_beside)), (aM_trace, .inl (cI, 16, .inl M_trace))]) (C := RX7) (T := TX7) (Nf := 28) (ref := "BeepNetModel") hx hb hts hiX7 tyX7 tyX7_ok nmX7 hown hK hP hD hS 0 rfl rfl 27 (by decide) k_2 rfl rfl rfl (Nat.le_of_ble_eq_true rfl) dX7_ask_28 rfl (fun H locs hP hD hS => ?_)
      refine lv_iload_n hx hb dX7_ask_31 rfl (lv_at hl 2 rfl) ?_
      refine lv_if_ne (tgt := 43) hx hb dX7_ask_32 (by decide) (fun c7 => ?_) (fun c7 => ?_)
      · have h := ifn c7 h
        refine lv_aload_n hx hb dX7_ask_43 rfl (lv_at hl 0 rfl) ?_
        refine lv_iload_n hx hb dX7_ask_44 rfl (lv_at hl 1 rfl) ?_
        obtain ⟨r8, M_traced_9, M_trace_10, e11, h⟩ := bd3_s h
        refine kc_vi (rest := []) (wr := []) (wF := [(aM, .inr (7, [.int 0, .int M_status, .ref aM_lane, .ref aM_many, .ref aM_item, .int M_posts, .ref aM_beside, .int M_rounds, .ref aM_round, .int M_read, .ref aM_reads, .ref aM_tape, .int M_taped, .int M_latest, .int M_length, .int M_at, .int M_sort, .int M_from, .int M_till, .int M_fault, .int M_faultAt, .ref aM_fewest, .ref aM_may, .ref aM_then, .ref aM_cases, .ref aM_next, .ref aM_trace, .int M_traced_9])), (aM_beside, .inl (cI, 8, .inl M_beside)), (aM_trace, .inl (cI, 16, .inl M_trace_10))]) ⟨hx, hb, hml, hown, hts⟩ (c_X7_marked l dC dI cI cJ cZ cA aM aM_lane aM_many aM_item aM_beside aM_round aM_reads aM_tape aM_fewest aM_may aM_then aM_cases aM_next aM_trace 0 M_status M_posts M_rounds M_read M_taped M_latest M_length M_at M_sort M_from M_till M_fault M_faultAt 0 M_beside M_trace p0 r8 M_traced_9 M_trace_10 e11) (cwV 1 hts gX7_ask_X7_marked rfl rfl rfl (by decide +kernel) ⟨Nat.le_of_ble_eq_true rfl, Nat.le_of_ble_eq_true rfl⟩) hK hP hD hS hA [0, 1, 2] [] [0, 1, 2] 0 rfl rfl rfl rfl (by decide) rfl rfl rfl rfl rfl rfl hl.1 rfl (Nat.le_of_ble_eq_true rfl) dX7_ask_45 ⟨Nat.zero_le _, Nat.zero_le _⟩ (fun H locs hP hD hS => ?_)
        obtain ⟨rfl, rfl, rfl, rfl⟩ := sj4 h
        exact hret _ _ _ _ _ rfl rfl hP hD hS dX7_ask_48
      · have h := ift c7 h
        refine lv_aload_n hx hb dX7_ask_35 rfl (lv_at hl 0 rfl) ?_
        refine lv_iload_n hx hb dX7_ask_36 rfl (lv_at hl 1 rfl) ?_
        obtain ⟨r12, M_traced_13, M_trace_14, e15, h⟩ := bd3_s h
        refine kc_vi (rest := []) (wr := []) (wF := [(aM, .inr (7, [.int 0, .int M_status, .ref aM_lane, .ref aM_many, .ref aM_item, .int M_posts, .ref aM_beside, .int M_rounds, .ref aM_round, .int M_read, .ref aM_reads, .ref aM_tape, .int M_taped, .int M_latest, .int M_length, .int M_at, .int M_sort, .int M_from, .int M_till, .int M_fault, .int M_faultAt, .ref aM_fewest, .ref aM_may, .ref aM_then, .ref aM_cases, .ref aM_next, .ref aM_trace, .int M_traced_13])), (aM_beside, .inl (cI, 8, .inl M_beside)), (aM_trace, .inl (cI, 16, .inl M_trace_14))]) ⟨hx, hb, hml, hown, hts⟩ (c_X7_sized l dC dI cI cJ cZ cA aM aM_lane aM_many aM_item aM_beside aM_round aM_reads aM_tape aM_fewest aM_may aM_then aM_cases aM_next aM_trace 0 M_status M_posts M_rounds M_read M_taped M_latest M_length M_at M_sort M_from M_till M_fault M_faultAt 0 M_beside M_trace p0 r12 M_traced_13 M_trace_14 e15) (cwV 1 hts gX7_ask_X7_sized rfl rfl rfl (by decide +kernel) ⟨Nat.le_of_ble_eq_true rfl, Nat.le_of_ble_eq_true rfl⟩) hK hP hD hS hA [0, 1, 2] [] [0, 1, 2] 0 rfl rfl rfl rfl (by decide) rfl rfl rfl rfl rfl rfl hl.1 rfl (Nat.le_of_ble_eq_true rfl) dX7_ask_37 ⟨Nat.zero_le _, Nat.zero_le _⟩ (fun H locs hP hD hS => ?_)
        refine lv_goto (tgt := 48) hx hb dX7_ask_40 (by decide) ?_
        obtain ⟨rfl, rfl, rfl, rfl⟩ := sj4 h
        exact hret _ _ _ _ _ rfl rfl hP hD hS dX7_ask_48
    · have h := ift c6 h
      refine lv_ldc hx hb hown k_1 dX7_ask_23 ?_
      obtain ⟨rfl, rfl, rfl, rfl⟩ := sj4 h
      exact hret _ _ _ _ _ rfl rfl hP hD hS dX7_ask_25
set_option maxHeartbeats 4000000 in
set_option maxRecDepth 100000 in
theorem c_X7_trace (l : Launch) (dC : Nat → ClassId) (dI : Nat → Nat → Nat) (cI cJ cZ cA : ClassId) (aM aM_lane aM_many aM_item aM_beside aM_round aM_reads aM_tape aM_fewest aM_may aM_then aM_cases aM_next aM_trace : Nat) (M_thrown : Int32) (M_status : Int32) (M_posts : Int32) (M_rounds : Int32) (M_read : Int32) (M_taped : Int32) (M_latest : Int32) (M_length : Int32) (M_at : Int32) (M_sort : Int32) (M_from : Int32) (M_till : Int32) (M_fault : Int32) (M_faultAt : Int32) (M_traced : Int32) (M_trace : Nat → Int32) (p0 : Int32) (rr : Int32) (M_thrown_z : Int32) (h : fX7_trace M_thrown M_traced M_trace p0 = some (rr, M_thrown_z)) : Cti l yX7_trace wsX7_trace rmX7_trace (dC, dI) (tyL cI cJ cZ cA) [(aM, .inr (7, [.int M_thrown, .int M_status, .ref aM_lane, .ref aM_many, .ref aM_item, .int M_posts, .ref aM_beside, .int M_rounds, .ref aM_round, .int M_read, .ref aM_reads, .ref aM_tape, .int M_taped, .int M_latest, .int M_length, .int M_at, .int M_sort, .int M_from, .int M_till, .int M_fault, .int M_faultAt, .ref aM_fewest, .ref aM_may, .ref aM_then, .ref aM_cases, .ref aM_next, .ref aM_trace, .int M_traced])), (aM_trace, .inl (cI, 16, .inl M_trace))] [(aM, .inr (7, [.int M_thrown_z, .int M_status, .ref aM_lane, .ref aM_many, .ref aM_item, .int M_posts, .ref aM_beside, .int M_rounds, .ref aM_round, .int M_read, .ref aM_reads, .ref aM_tape, .int M_taped, .int M_latest, .int M_length, .int M_at, .int M_sort, .int M_from, .int M_till, .int M_fault, .int M_faultAt, .ref aM_fewest, .ref aM_may, .ref aM_then, .ref aM_cases, .ref aM_next, .ref aM_trace, .int M_traced])), (aM_trace, .inl (cI, 16, .inl M_trace))] [.ref aM, .int p0] rr := by
  refine ct_int (ty := .int) (cc := cX7_trace) (maxL := 2) (by decide) rfl (Nat.le_of_ble_eq_true rfl) ?_
  intro p e s m args below meth c A Q ls hx hb hml hown hts hA hK hP hD hS hl hret
  have hl : lv_has ls 2 [(0, .ref aM), (1, .int p0)] := hl
  have k_0 := hts (.fieldLink RX7 51 "BeepNetModel" "thrown" "I") (by decide +kernel)
  have k_1 := hts (.fieldLink RX7 215 "BeepNetModel" "traced" "I") (by decide +kernel)
  have k_2 := hts (.constant RX7 86 (-1000000)) (by decide +kernel)
  have k_3 := hts (.fieldLink RX7 48 "BeepNetModel" "trace" "[I") (by decide +kernel)
  have hiX7 : ∀ w ∈ u_ws RX7 TX7 28, w ∈ wsX7_trace := fun w hw => List.mem_cons_of_mem _ (List.mem_append_right _ hw)
  unfold fX7_trace at h
  refine lv_aload_n hx hb dX7_trace_0 rfl (lv_at hl 0 rfl) ?_
  refine lv_iconst (v := 0) hx hb dX7_trace_1 (by decide) ?_
  refine ka_put (w1 := [(aM, .inr (7, [.int 0, .int M_status, .ref aM_lane, .ref aM_many, .ref aM_item, .int M_posts, .ref aM_beside, .int M_rounds, .ref aM_round, .int M_read, .ref aM_reads, .ref aM_tape, .int M_taped, .int M_latest, .int M_length, .int M_at, .int M_sort, .int M_from, .int M_till, .int M_fault, .int M_faultAt, .ref aM_fewest, .ref aM_may, .ref aM_then, .ref aM_cases, .ref aM_next, .ref aM_trace, .int M_traced])), (aM_trace, .inl (cI, 16, .inl M_trace))]) (C := RX7) (T := TX7) (Nf := 28) (ref := "BeepNetModel") hx hb hts hiX7 tyX7 tyX7_ok nmX7 hown hK hP hD hS 0 rfl rfl 0 (by decide) k_0 rfl rfl rfl (Nat.le_of_ble_eq_true rfl) dX7_trace_2 rfl (fun H locs hP hD hS => ?_)
  refine lv_iload_n hx hb dX7_trace_5 rfl (lv_at hl 1 rfl) ?_
  refine lv_i2l hx hb dX7_trace_6 rfl ?_
  refine lv_lconst (v := 0) hx hb dX7_trace_7 (by decide) ?_
  refine lv_aload_n hx hb dX7_trace_8 rfl (lv_at hl 0 rfl) ?_
  refine ka_get (v := .int M_traced) (C := RX7) (T := TX7) (Nf := 28) (ref := "BeepNetModel") hx hb hts hiX7 hown hK hP 0 rfl rfl 27 (by decide) k_1 rfl rfl dX7_trace_9 ?_
  refine lv_iconst (v := 1) hx hb dX7_trace_12 (by decide) ?_
  refine lv_isub hx hb dX7_trace_13 ?_
  refine lv_i2l hx hb dX7_trace_14 rfl ?_
  obtain ⟨r1, e2, h⟩ := bd1_s h
  refine kc_si (rest := []) (wr := [(aM, .inr (7, [.int 0, .int M_status, .ref aM_lane, .ref aM_many, .ref aM_item, .int M_posts, .ref aM_beside, .int M_rounds, .ref aM_round, .int M_read, .ref aM_reads, .ref aM_tape, .int M_taped, .int M_latest, .int M_length, .int M_at, .int M_sort, .int M_from, .int M_till, .int M_fault, .int M_faultAt, .ref aM_fewest, .ref aM_may, .ref aM_then, .ref aM_cases, .ref aM_next, .ref aM_trace, .int M_traced])), (aM_trace, .inl (cI, 16, .inl M_trace))]) (wF := [(aM, .inr (7, [.int 0, .int M_status, .ref aM_lane, .ref aM_many, .ref aM_item, .int M_posts, .ref aM_beside, .int M_rounds, .ref aM_round, .int M_read, .ref aM_reads, .ref aM_tape, .int M_taped, .int M_latest, .int M_length, .int M_at, .int M_sort, .int M_from, .int M_till, .int M_fault, .int M_faultAt, .ref aM_fewest, .ref aM_may, .ref aM_then, .ref aM_cases, .ref aM_next, .ref aM_trace, .int M_traced])), (aM_trace, .inl (cI, 16, .inl M_trace))]) ⟨hx, hb, hml, hown, hts⟩ (c_X7_in l dC dI cI cJ cZ cA p0.toInt64 0 ((M_traced - (1 : Int32)).toInt64) r1 e2) (va_cwS 3 hts gX7_trace_X7_in rfl rfl rfl (by decide +kernel) ⟨Nat.le_of_ble_eq_true rfl, Nat.le_of_ble_eq_true rfl⟩) hK hP hD hS hA [] [0, 1] [0, 1] rfl rfl rfl rfl (by decide) rfl rfl rfl hl.1 rfl (Nat.le_of_ble_eq_true rfl) dX7_trace_15 ⟨Nat.zero_le _, Nat.zero_le _⟩ (fun H locs hP hD hS => ?_)
  refine lv_if_eq (tgt := 30) hx hb dX7_trace_18 (by decide) (fun c3 => ?_) (fun c3 => ?_)
  · have h := ift c3 h
    refine lv_ldc hx hb hown k_2 dX7_trace_30 ?_
    obtain ⟨rfl, rfl⟩ := sj2 h
    exact hret _ _ _ _ _ rfl rfl hP hD hS dX7_trace_32
  · have h := ifn c3 h
    refine lv_aload_n hx hb dX7_trace_21 rfl (lv_at hl 0 rfl) ?_
    refine ka_get (v := .ref aM_trace) (C := RX7) (T := TX7) (Nf := 28) (ref := "BeepNetModel") hx hb hts hiX7 hown hK hP 0 rfl rfl 26 (by decide) k_3 rfl rfl dX7_trace_22 ?_
    refine lv_iload_n hx hb dX7_trace_25 rfl (lv_at hl 1 rfl) ?_
    obtain ⟨v4, ev4, hn5, h⟩ := ldx_s h
    refine ka_ild hx hb hK hP 1 0 ev4 rfl rfl hn5 dX7_trace_26 ?_
    refine lv_goto (tgt := 32) hx hb dX7_trace_27 (by decide) ?_
    obtain ⟨rfl, rfl⟩ := sj2 h
    exact hret _ _ _ _ _ rfl rfl hP hD hS dX7_trace_32
set_option maxHeartbeats 4000000 in
set_option maxRecDepth 100000 in
theorem c_X7_count (l : Launch) (dC : Nat → ClassId) (dI : Nat → Nat → Nat) (cI cJ cZ cA : ClassId) (aM aM_lane aM_many aM_item aM_beside aM_round aM_reads aM_tape aM_fewest aM_may aM_then aM_cases aM_next aM_trace : Nat) (M_thrown : Int32) (M_status : Int32) (M_posts : Int32) (M_rounds : Int32) (M_read : Int32) (M_taped : Int32) (M_latest : Int32) (M_length : Int32) (M_at : Int32) (M_sort : Int32) (M_from : Int32) (M_till : Int32) (M_fault : Int32) (M_faultAt : Int32) (M_traced : Int32) (M_lane : Nat → Int32) (M_beside : Nat → Int32) (p0 : Int32) (rr : Int32) (M_thrown_z : Int32) (h : fX7_count M_thrown M_posts M_rounds M_taped M_lane M_beside p0 = some (rr, M_thrown_z)) : Cti l yX7_count wsX7_count rmX7_count (dC, dI) (tyL cI cJ cZ cA) [(aM, .inr (7, [.int M_thrown, .int M_status, .ref aM_lane, .ref aM_many, .ref aM_item, .int M_posts, .ref aM_beside, .int M_rounds, .ref aM_round, .int M_read, .ref aM_reads, .ref aM_tape, .int M_taped, .int M_latest, .int M_length, .int M_at, .int M_sort, .int M_from, .int M_till, .int M_fault, .int M_faultAt, .ref aM_fewest, .ref aM_may, .ref aM_then, .ref aM_cases, .ref aM_next, .ref aM_trace, .int M_traced])), (aM_lane, .inl (cI, 8, .inl M_lane)), (aM_beside, .inl (cI, 8, .inl M_beside))] [(aM, .inr (7, [.int M_thrown_z, .int M_status, .ref aM_lane, .ref aM_many, .ref aM_item, .int M_posts, .ref aM_beside, .int M_rounds, .ref aM_round, .int M_read, .ref aM_reads, .ref aM_tape, .int M_taped, .int M_latest, .int M_length, .int M_at, .int M_sort, .int M_from, .int M_till, .int M_fault, .int M_faultAt, .ref aM_fewest, .ref aM_may, .ref aM_then, .ref aM_cases, .ref aM_next, .ref aM_trace, .int M_traced])), (aM_lane, .inl (cI, 8, .inl M_lane)), (aM_beside, .inl (cI, 8, .inl M_beside))] [.ref aM, .int p0] rr := by
  refine ct_int (ty := .int) (cc := cX7_count) (maxL := 4) (by decide) rfl (Nat.le_of_ble_eq_true rfl) ?_
  intro p e s m args below meth c A Q ls hx hb hml hown hts hA hK hP hD hS hl hret
  have hl : lv_has ls 4 [(0, .ref aM), (1, .int p0)] := hl
  have k_0 := hts (.fieldLink RX7 7 "BeepNetModel" "lane" "[I") (by decide +kernel)
  have k_1 := hts (.fieldLink RX7 76 "BeepNetModel" "posts" "I") (by decide +kernel)
  have k_2 := hts (.fieldLink RX7 19 "BeepNetModel" "beside" "[I") (by decide +kernel)
  have k_3 := hts (.fieldLink RX7 51 "BeepNetModel" "thrown" "I") (by decide +kernel)
  have k_4 := hts (.fieldLink RX7 187 "BeepNetModel" "rounds" "I") (by decide +kernel)
  have k_5 := hts (.fieldLink RX7 121 "BeepNetModel" "taped" "I") (by decide +kernel)
  have k_6 := hts (.constant RX7 71 (-1000001)) (by decide +kernel)
  have hiX7 : ∀ w ∈ u_ws RX7 TX7 28, w ∈ wsX7_count := fun w hw => List.mem_cons_of_mem _ (List.mem_append_right _ hw)
  have hC58 : ∀ (n : Nat) (M_thrown : Int32) (x2 : Int32) (x3 : Int32) (H : Heap) (locs : List Loc) (ls : Array Slot), fX7_count_c58 M_posts M_rounds M_taped M_lane M_beside n M_thrown x2 x3 = some (rr, M_thrown_z) → va_P (dC, dI) vwCl [(aM, .inr (7, [.int M_thrown, .int M_status, .ref aM_lane, .ref aM_many, .ref aM_item, .int M_posts, .ref aM_beside, .int M_rounds, .ref aM_round, .int M_read, .ref aM_reads, .ref aM_tape, .int M_taped, .int M_latest, .int M_length, .int M_at, .int M_sort, .int M_from, .int M_till, .int M_fault, .int M_faultAt, .ref aM_fewest, .ref aM_may, .ref aM_then, .ref aM_cases, .ref aM_next, .ref aM_trace, .int M_traced])), (aM_lane, .inl (cI, 8, .inl M_lane)), (aM_beside, .inl (cI, 8, .inl M_beside))] H → va_D A [(aM, .inr (7, [.int M_thrown, .int M_status, .ref aM_lane, .ref aM_many, .ref aM_item, .int M_posts, .ref aM_beside, .int M_rounds, .ref aM_round, .int M_read, .ref aM_reads, .ref aM_tape, .int M_taped, .int M_latest, .int M_length, .int M_at, .int M_sort, .int M_from, .int M_till, .int M_fault, .int M_faultAt, .ref aM_fewest, .ref aM_may, .ref aM_then, .ref aM_cases, .ref aM_next, .ref aM_trace, .int M_traced])), (aM_lane, .inl (cI, 8, .inl M_lane)), (aM_beside, .inl (cI, 8, .inl M_beside))] → va_S A s.heap H locs → lv_has ls 4 [(0, .ref aM), (2, .int x2), (3, .int x3)] → W p l e rmX7_count s m args below meth c H locs 0 0 Q (F0 m 58 ls []) := by
    intro n
    induction n with
    | zero => intro M_thrown x2 x3 H locs ls h; rw [fX7_count_c58] at h; cases h
    | succ n58 ih58 =>
      intro M_thrown x2 x3 H locs ls h hP hD hS hl
      rw [fX7_count_c58] at h
      refine lv_iload_n hx hb dX7_count_58 rfl (lv_at hl 2 rfl) ?_
      refine lv_bipush (v := 8) hx hb dX7_count_59 (by decide) ?_
      refine lv_icmp_ge (tgt := 87) hx hb dX7_count_61 (by decide) (fun c5901 => ?_) (fun c5901 => ?_)
      · have h := ift c5901 h
        refine lv_iload_n hx hb dX7_count_87 rfl (lv_at hl 1 rfl) ?_
        obtain ⟨rfl, rfl⟩ := sj2 h
        exact hret _ _ _ _ _ rfl rfl hP hD hS dX7_count_88
      · have h := ifn c5901 h
        refine lv_iload_n hx hb dX7_count_64 rfl (lv_at hl 1 rfl) ?_
        refine lv_aload_n hx hb dX7_count_65 rfl (lv_at hl 0 rfl) ?_
        refine ka_get (v := .ref aM_lane) (C := RX7) (T := TX7) (Nf := 28) (ref := "BeepNetModel") hx hb hts hiX7 hown hK hP 0 rfl rfl 2 (by decide) k_0 rfl rfl dX7_count_66 ?_
        refine lv_iload_n hx hb dX7_count_69 rfl (lv_at hl 2 rfl) ?_
        obtain ⟨v5902, ev5902, hn5903, h⟩ := ldx_s h
        refine ka_ild hx hb hK hP 1 0 ev5902 rfl rfl hn5903 dX7_count_70 ?_
        refine lv_if_lt (tgt := 78) hx hb dX7_count_71 (by decide) (fun c5904 => ?_) (fun c5904 => ?_)
        · have h := ift c5904 h
          refine lv_iconst (v := 0) hx hb dX7_count_78 (by decide) ?_
          refine lv_iadd hx hb dX7_count_79 ?_
          refine lv_istore_n (lv' := [(2, .int (x2 + (0 : Int32))), (0, .ref aM), (3, .int x3)]) hx hb dX7_count_80 rfl hl (by decide) rfl (fun ls hl => ?_)
          refine lv_iinc (v := x3 + 1) (lv' := [(3, .int (x3 + 1)), (2, .int (x2 + (0 : Int32))), (0, .ref aM)]) hx hb dX7_count_81 hl (k := 2) rfl rfl (by decide) rfl (fun ls hl => ?_)
          refine lv_goto (tgt := 58) hx hb dX7_count_84 (by decide) ?_
          exact ih58 M_thrown (x2 + (0 : Int32)) (x3 + 1) _ _ _ h hP hD hS (lv_sub hl [2, 1, 0] rfl)
        · have h := ifn c5904 h
          refine lv_iconst (v := 1) hx hb dX7_count_74 (by decide) ?_
          refine lv_goto (tgt := 79) hx hb dX7_count_75 (by decide) ?_
          refine lv_iadd hx hb dX7_count_79 ?_
          refine lv_istore_n (lv' := [(2, .int (x2 + (1 : Int32))), (0, .ref aM), (3, .int x3)]) hx hb dX7_count_80 rfl hl (by decide) rfl (fun ls hl => ?_)
          refine lv_iinc (v := x3 + 1) (lv' := [(3, .int (x3 + 1)), (2, .int (x2 + (1 : Int32))), (0, .ref aM)]) hx hb dX7_count_81 hl (k := 2) rfl rfl (by decide) rfl (fun ls hl => ?_)
          refine lv_goto (tgt := 58) hx hb dX7_count_84 (by decide) ?_
          exact ih58 M_thrown (x2 + (1 : Int32)) (x3 + 1) _ _ _ h hP hD hS (lv_sub hl [2, 1, 0] rfl)
  have hC96 : ∀ (n : Nat) (M_thrown : Int32) (x2 : Int32) (x3 : Int32) (H : Heap) (locs : List Loc) (ls : Array Slot), fX7_count_c96 M_posts M_rounds M_taped M_lane M_beside n M_thrown x2 x3 = some (rr, M_thrown_z) → va_P (dC, dI) vwCl [(aM, .inr (7, [.int M_thrown, .int M_status, .ref aM_lane, .ref aM_many, .ref aM_item, .int M_posts, .ref aM_beside, .int M_rounds, .ref aM_round, .int M_read, .ref aM_reads, .ref aM_tape, .int M_taped, .int M_latest, .int M_length, .int M_at, .int M_sort, .int M_from, .int M_till, .int M_fault, .int M_faultAt, .ref aM_fewest, .ref aM_may, .ref aM_then, .ref aM_cases, .ref aM_next, .ref aM_trace, .int M_traced])), (aM_lane, .inl (cI, 8, .inl M_lane)), (aM_beside, .inl (cI, 8, .inl M_beside))] H → va_D A [(aM, .inr (7, [.int M_thrown, .int M_status, .ref aM_lane, .ref aM_many, .ref aM_item, .int M_posts, .ref aM_beside, .int M_rounds, .ref aM_round, .int M_read, .ref aM_reads, .ref aM_tape, .int M_taped, .int M_latest, .int M_length, .int M_at, .int M_sort, .int M_from, .int M_till, .int M_fault, .int M_faultAt, .ref aM_fewest, .ref aM_may, .ref aM_then, .ref aM_cases, .ref aM_next, .ref aM_trace, .int M_traced])), (aM_lane, .inl (cI, 8, .inl M_lane)), (aM_beside, .inl (cI, 8, .inl M_beside))] → va_S A s.heap H locs → lv_has ls 4 [(0, .ref aM), (2, .int x2), (3, .int x3)] → W p l e rmX7_count s m args below meth c H locs 0 0 Q (F0 m 96 ls []) := by
    intro n
    induction n with
    | zero => intro M_thrown x2 x3 H locs ls h; rw [fX7_count_c96] at h; cases h
    | succ n96 ih96 =>
      intro M_thrown x2 x3 H locs ls h hP hD hS hl
      rw [fX7_count_c96] at h
      refine lv_iload_n hx hb dX7_count_96 rfl (lv_at hl 2 rfl) ?_
      refine lv_aload_n hx hb dX7_count_97 rfl (lv_at hl 0 rfl) ?_
      refine ka_get (v := .int M_posts) (C := RX7) (T := TX7) (Nf := 28) (ref := "BeepNetModel") hx hb hts hiX7 hown hK hP 0 rfl rfl 5 (by decide) k_1 rfl rfl dX7_count_98 ?_
      refine lv_icmp_ge (tgt := 122) hx hb dX7_count_101 (by decide) (fun c9701 => ?_) (fun c9701 => ?_)
      · have h := ift c9701 h
        refine lv_iload_n hx hb dX7_count_122 rfl (lv_at hl 1 rfl) ?_
        refine lv_iconst (v := 2) hx hb dX7_count_123 (by decide) ?_
        refine lv_idiv hx hb dX7_count_124 (by decide) ?_
        obtain ⟨rfl, rfl⟩ := sj2 h
        exact hret _ _ _ _ _ rfl rfl hP hD hS dX7_count_125
      · have h := ifn c9701 h
        refine lv_iload_n hx hb dX7_count_104 rfl (lv_at hl 1 rfl) ?_
        refine lv_aload_n hx hb dX7_count_105 rfl (lv_at hl 0 rfl) ?_
        refine ka_get (v := .ref aM_beside) (C := RX7) (T := TX7) (Nf := 28) (ref := "BeepNetModel") hx hb hts hiX7 hown hK hP 0 rfl rfl 6 (by decide) k_2 rfl rfl dX7_count_106 ?_
        refine lv_iload_n hx hb dX7_count_109 rfl (lv_at hl 2 rfl) ?_
        obtain ⟨v9702, ev9702, hn9703, h⟩ := ldx_s h
        refine ka_ild hx hb hK hP 2 0 ev9702 rfl rfl hn9703 dX7_count_110 ?_
        obtain ⟨r9704, e9705, h⟩ := bd1_s h
        refine kc_si (rest := [.int x2]) (wr := [(aM, .inr (7, [.int M_thrown, .int M_status, .ref aM_lane, .ref aM_many, .ref aM_item, .int M_posts, .ref aM_beside, .int M_rounds, .ref aM_round, .int M_read, .ref aM_reads, .ref aM_tape, .int M_taped, .int M_latest, .int M_length, .int M_at, .int M_sort, .int M_from, .int M_till, .int M_fault, .int M_faultAt, .ref aM_fewest, .ref aM_may, .ref aM_then, .ref aM_cases, .ref aM_next, .ref aM_trace, .int M_traced])), (aM_lane, .inl (cI, 8, .inl M_lane)), (aM_beside, .inl (cI, 8, .inl M_beside))]) (wF := [(aM, .inr (7, [.int M_thrown, .int M_status, .ref aM_lane, .ref aM_many, .ref aM_item, .int M_posts, .ref aM_beside, .int M_rounds, .ref aM_round, .int M_read, .ref aM_reads, .ref aM_tape, .int M_taped, .int M_latest, .int M_length, .int M_at, .int M_sort, .int M_from, .int M_till, .int M_fault, .int M_faultAt, .ref aM_fewest, .ref aM_may, .ref aM_then, .ref aM_cases, .ref aM_next, .ref aM_trace, .int M_traced])), (aM_lane, .inl (cI, 8, .inl M_lane)), (aM_beside, .inl (cI, 8, .inl M_beside))]) ⟨hx, hb, hml, hown, hts⟩ (c_X7_size l dC dI cI cJ cZ cA v9702 r9704 e9705) (va_cwS 1 hts gX7_count_X7_size rfl rfl rfl (by decide +kernel) ⟨Nat.le_of_ble_eq_true rfl, Nat.le_of_ble_eq_true rfl⟩) hK hP hD hS hA [] [0, 1, 2] [0, 1, 2] rfl rfl rfl rfl (by decide) rfl rfl rfl hl.1 rfl (Nat.le_of_ble_eq_true rfl) dX7_count_111 ⟨Nat.zero_le _, Nat.zero_le _⟩ (fun H locs hP hD hS => ?_)
        refine lv_iadd hx hb dX7_count_114 ?_
        refine lv_istore_n (lv' := [(2, .int (x2 + r9704)), (0, .ref aM), (3, .int x3)]) hx hb dX7_count_115 rfl hl (by decide) rfl (fun ls hl => ?_)
        refine lv_iinc (v := x3 + 1) (lv' := [(3, .int (x3 + 1)), (2, .int (x2 + r9704)), (0, .ref aM)]) hx hb dX7_count_116 hl (k := 2) rfl rfl (by decide) rfl (fun ls hl => ?_)
        refine lv_goto (tgt := 96) hx hb dX7_count_119 (by decide) ?_
        exact ih96 M_thrown (x2 + r9704) (x3 + 1) _ _ _ h hP hD hS (lv_sub hl [2, 1, 0] rfl)
  have hC133 : ∀ (n : Nat) (M_thrown : Int32) (x1 : Int32) (x2 : Int32) (x3 : Int32) (H : Heap) (locs : List Loc) (ls : Array Slot), fX7_count_c133 M_posts M_rounds M_taped M_lane M_beside n M_thrown x1 x2 x3 = some (rr, M_thrown_z) → va_P (dC, dI) vwCl [(aM, .inr (7, [.int M_thrown, .int M_status, .ref aM_lane, .ref aM_many, .ref aM_item, .int M_posts, .ref aM_beside, .int M_rounds, .ref aM_round, .int M_read, .ref aM_reads, .ref aM_tape, .int M_taped, .int M_latest, .int M_length, .int M_at, .int M_sort, .int M_from, .int M_till, .int M_fault, .int M_faultAt, .ref aM_fewest, .ref aM_may, .ref aM_then, .ref aM_cases, .ref aM_next, .ref aM_trace, .int M_traced])), (aM_lane, .inl (cI, 8, .inl M_lane)), (aM_beside, .inl (cI, 8, .inl M_beside))] H → va_D A [(aM, .inr (7, [.int M_thrown, .int M_status, .ref aM_lane, .ref aM_many, .ref aM_item, .int M_posts, .ref aM_beside, .int M_rounds, .ref aM_round, .int M_read, .ref aM_reads, .ref aM_tape, .int M_taped, .int M_latest, .int M_length, .int M_at, .int M_sort, .int M_from, .int M_till, .int M_fault, .int M_faultAt, .ref aM_fewest, .ref aM_may, .ref aM_then, .ref aM_cases, .ref aM_next, .ref aM_trace, .int M_traced])), (aM_lane, .inl (cI, 8, .inl M_lane)), (aM_beside, .inl (cI, 8, .inl M_beside))] → va_S A s.heap H locs → lv_has ls 4 [(0, .ref aM), (1, .int x1), (2, .int x2), (3, .int x3)] → W p l e rmX7_count s m args below meth c H locs 0 0 Q (F0 m 133 ls []) := by
    intro n
    induction n with
    | zero => intro M_thrown x1 x2 x3 H locs ls h; rw [fX7_count_c133] at h; cases h
    | succ n133 ih133 =>
      intro M_thrown x1 x2 x3 H locs ls h hP hD hS hl
      rw [fX7_count_c133] at h
      refine lv_iload_n hx hb dX7_count_133 rfl (lv_at hl 3 rfl) ?_
      refine lv_aload_n hx hb dX7_count_134 rfl (lv_at hl 0 rfl) ?_
      refine ka_get (v := .int M_posts) (C := RX7) (T := TX7) (Nf := 28) (ref := "BeepNetModel") hx hb hts hiX7 hown hK hP 0 rfl rfl 5 (by decide) k_1 rfl rfl dX7_count_135 ?_
      refine lv_icmp_ge (tgt := 166) hx hb dX7_count_138 (by decide) (fun c13401 => ?_) (fun c13401 => ?_)
      · have h := ift c13401 h
        refine lv_iload_n hx hb dX7_count_166 rfl (lv_at hl 2 rfl) ?_
        obtain ⟨rfl, rfl⟩ := sj2 h
        exact hret _ _ _ _ _ rfl rfl hP hD hS dX7_count_167
      · have h := ifn c13401 h
        refine lv_iload_n hx hb dX7_count_141 rfl (lv_at hl 2 rfl) ?_
        refine lv_aload_n hx hb dX7_count_142 rfl (lv_at hl 0 rfl) ?_
        refine lv_iload_n hx hb dX7_count_143 rfl (lv_at hl 3 rfl) ?_
        obtain ⟨r13402, e13403, h⟩ := bd1_s h
        refine kc_vi (rest := [.int x2]) (wr := [(aM_lane, .inl (cI, 8, .inl M_lane))]) (wF := [(aM, .inr (7, [.int M_thrown, .int M_status, .ref aM_lane, .ref aM_many, .ref aM_item, .int M_posts, .ref aM_beside, .int M_rounds, .ref aM_round, .int M_read, .ref aM_reads, .ref aM_tape, .int M_taped, .int M_latest, .int M_length, .int M_at, .int M_sort, .int M_from, .int M_till, .int M_fault, .int M_faultAt, .ref aM_fewest, .ref aM_may, .ref aM_then, .ref aM_cases, .ref aM_next, .ref aM_trace, .int M_traced])), (aM_lane, .inl (cI, 8, .inl M_lane)), (aM_beside, .inl (cI, 8, .inl M_beside))]) ⟨hx, hb, hml, hown, hts⟩ (c_X7_kindOf l dC dI cI cJ cZ cA aM aM_lane aM_many aM_item aM_beside aM_round aM_reads aM_tape aM_fewest aM_may aM_then aM_cases aM_next aM_trace M_thrown M_status M_posts M_rounds M_read M_taped M_latest M_length M_at M_sort M_from M_till M_fault M_faultAt M_traced M_beside x3 r13402 e13403) (cwV 1 hts gX7_count_X7_kindOf rfl rfl rfl (by decide +kernel) ⟨Nat.le_of_ble_eq_true rfl, Nat.le_of_ble_eq_true rfl⟩) hK hP hD hS hA [0, 2] [1] [1, 0, 2] 0 rfl rfl rfl rfl (by decide) rfl rfl rfl rfl rfl rfl hl.1 rfl (Nat.le_of_ble_eq_true rfl) dX7_count_144 ⟨Nat.zero_le _, Nat.zero_le _⟩ (fun H locs hP hD hS => ?_)
        refine lv_iload_n hx hb dX7_count_147 rfl (lv_at hl 1 rfl) ?_
        refine lv_iconst (v := 2) hx hb dX7_count_148 (by decide) ?_
        refine lv_isub hx hb dX7_count_149 ?_
        refine lv_icmp_ne (tgt := 157) hx hb dX7_count_150 (by decide) (fun c13404 => ?_) (fun c13404 => ?_)
        · have h := ifn c13404 h
          refine lv_iconst (v := 0) hx hb dX7_count_157 (by decide) ?_
          refine lv_iadd hx hb dX7_count_158 ?_
          refine lv_istore_n (lv' := [(2, .int (x2 + (0 : Int32))), (0, .ref aM), (1, .int x1), (3, .int x3)]) hx hb dX7_count_159 rfl hl (by decide) rfl (fun ls hl => ?_)
          refine lv_iinc (v := x3 + 1) (lv' := [(3, .int (x3 + 1)), (2, .int (x2 + (0 : Int32))), (0, .ref aM), (1, .int x1)]) hx hb dX7_count_160 hl (k := 3) rfl rfl (by decide) rfl (fun ls hl => ?_)
          refine lv_goto (tgt := 133) hx hb dX7_count_163 (by decide) ?_
          exact ih133 M_thrown x1 (x2 + (0 : Int32)) (x3 + 1) _ _ _ h hP hD hS (lv_sub hl [2, 3, 1, 0] rfl)
        · have h := ift c13404 h
          refine lv_iconst (v := 1) hx hb dX7_count_153 (by decide) ?_
          refine lv_goto (tgt := 158) hx hb dX7_count_154 (by decide) ?_
          refine lv_iadd hx hb dX7_count_158 ?_
          refine lv_istore_n (lv' := [(2, .int (x2 + (1 : Int32))), (0, .ref aM), (1, .int x1), (3, .int x3)]) hx hb dX7_count_159 rfl hl (by decide) rfl (fun ls hl => ?_)
          refine lv_iinc (v := x3 + 1) (lv' := [(3, .int (x3 + 1)), (2, .int (x2 + (1 : Int32))), (0, .ref aM), (1, .int x1)]) hx hb dX7_count_160 hl (k := 3) rfl rfl (by decide) rfl (fun ls hl => ?_)
          refine lv_goto (tgt := 133) hx hb dX7_count_163 (by decide) ?_
          exact ih133 M_thrown x1 (x2 + (1 : Int32)) (x3 + 1) _ _ _ h hP hD hS (lv_sub hl [2, 3, 1, 0] rfl)
  unfold fX7_count at h
  refine lv_aload_n hx hb dX7_count_0 rfl (lv_at hl 0 rfl) ?_
  refine lv_iconst (v := 0) hx hb dX7_count_1 (by decide) ?_
  refine ka_put (w1 := [(aM, .inr (7, [.int 0, .int M_status, .ref aM_lane, .ref aM_many, .ref aM_item, .int M_posts, .ref aM_beside, .int M_rounds, .ref aM_round, .int M_read, .ref aM_reads, .ref aM_tape, .int M_taped, .int M_latest, .int M_length, .int M_at, .int M_sort, .int M_from, .int M_till, .int M_fault, .int M_faultAt, .ref aM_fewest, .ref aM_may, .ref aM_then, .ref aM_cases, .ref aM_next, .ref aM_trace, .int M_traced])), (aM_lane, .inl (cI, 8, .inl M_lane)), (aM_beside, .inl (cI, 8, .inl M_beside))]) (C := RX7) (T := TX7) (Nf := 28) (ref := "BeepNetModel") hx hb hts hiX7 tyX7 tyX7_ok nmX7 hown hK hP hD hS 0 rfl rfl 0 (by decide) k_3 rfl rfl rfl (Nat.le_of_ble_eq_true rfl) dX7_count_2 rfl (fun H locs hP hD hS => ?_)
  refine lv_iconst (v := 0) hx hb dX7_count_5 (by decide) ?_
  refine lv_istore_n (lv' := [(2, .int 0), (0, .ref aM), (1, .int p0)]) hx hb dX7_count_6 rfl hl (by decide) rfl (fun ls hl => ?_)
  refine lv_iload_n hx hb dX7_count_7 rfl (lv_at hl 2 rfl) ?_
  by_cases c1 : p0 = 0
  · have h := ift c1 h
    refine lv_tableIn (tgt := 56) hx hb dX7_count_8 (by rw [c1]; decide) (by rw [c1]; decide) (by rw [c1]; rfl) (by decide) ?_
    refine lv_iconst (v := 0) hx hb dX7_count_56 (by decide) ?_
    refine lv_istore_n (lv' := [(3, .int 0), (2, .int 0), (0, .ref aM), (1, .int p0)]) hx hb dX7_count_57 rfl hl (by decide) rfl (fun ls hl => ?_)
    exact hC58 FU 0 0 0 _ _ _ h hP hD hS (lv_sub hl [2, 1, 0] rfl)
  · have h := ifn c1 h
    by_cases c2 : p0 = 1
    · have h := ift c2 h
      refine lv_tableIn (tgt := 89) hx hb dX7_count_8 (by rw [c2]; decide) (by rw [c2]; decide) (by rw [c2]; rfl) (by decide) ?_
      refine lv_aload_n hx hb dX7_count_89 rfl (lv_at hl 1 rfl) ?_
      refine ka_get (v := .int M_posts) (C := RX7) (T := TX7) (Nf := 28) (ref := "BeepNetModel") hx hb hts hiX7 hown hK hP 0 rfl rfl 5 (by decide) k_1 rfl rfl dX7_count_90 ?_
      obtain ⟨rfl, rfl⟩ := sj2 h
      exact hret _ _ _ _ _ rfl rfl hP hD hS dX7_count_93
    · have h := ifn c2 h
      by_cases c3 : p0 = 2
      · have h := ift c3 h
        refine lv_tableIn (tgt := 94) hx hb dX7_count_8 (by rw [c3]; decide) (by rw [c3]; decide) (by rw [c3]; rfl) (by decide) ?_
        refine lv_iconst (v := 0) hx hb dX7_count_94 (by decide) ?_
        refine lv_istore_n (lv' := [(3, .int 0), (2, .int 0), (0, .ref aM), (1, .int p0)]) hx hb dX7_count_95 rfl hl (by decide) rfl (fun ls hl => ?_)
        exact hC96 FU 0 0 0 _ _ _ h hP hD hS (lv_sub hl [2, 1, 0] rfl)
      · have h := ifn c3 h
        by_cases c4 : p0 = 3
        · have h := ift c4 h
          refine lv_tableIn (tgt := 126) hx hb dX7_count_8 (by rw [c4]; decide) (by rw [c4]; decide) (by rw [c4]; rfl) (by decide) ?_
          refine lv_aload_n hx hb dX7_count_126 rfl (lv_at hl 1 rfl) ?_
          refine ka_get (v := .int M_rounds) (C := RX7) (T := TX7) (Nf := 28) (ref := "BeepNetModel") hx hb hts hiX7 hown hK hP 0 rfl rfl 7 (by decide) k_4 rfl rfl dX7_count_127 ?_
          obtain ⟨rfl, rfl⟩ := sj2 h
          exact hret _ _ _ _ _ rfl rfl hP hD hS dX7_count_130
        · have h := ifn c4 h
          by_cases c5 : p0 = 4
          · have h := ift c5 h
            refine lv_tableIn (tgt := 131) hx hb dX7_count_8 (by rw [c5]; decide) (by rw [c5]; decide) (by rw [c5]; rfl) (by decide) ?_
            refine lv_iconst (v := 0) hx hb dX7_count_131 (by decide) ?_
            refine lv_istore_n (lv' := [(3, .int 0), (2, .int 0), (0, .ref aM), (1, .int p0)]) hx hb dX7_count_132 rfl hl (by decide) rfl (fun ls hl => ?_)
            exact hC133 FU 0 p0 0 0 _ _ _ h hP hD hS (lv_sub hl [2, 3, 1, 0] rfl)
          · have h := ifn c5 h
            by_cases c6 : p0 = 5
            · have h := ift c6 h
              refine lv_tableIn (tgt := 131) hx hb dX7_count_8 (by rw [c6]; decide) (by rw [c6]; decide) (by rw [c6]; rfl) (by decide) ?_
              refine lv_iconst (v := 0) hx hb dX7_count_131 (by decide) ?_
              refine lv_istore_n (lv' := [(3, .int 0), (2, .int 0), (0, .ref aM), (1, .int p0)]) hx hb dX7_count_132 rfl hl (by decide) rfl (fun ls hl => ?_)
              exact hC133 FU 0 p0 0 0 _ _ _ h hP hD hS (lv_sub hl [2, 3, 1, 0] rfl)
            · have h := ifn c6 h
              by_cases c7 : p0 = 6
              · have h := ift c7 h
                refine lv_tableIn (tgt := 131) hx hb dX7_count_8 (by rw [c7]; decide) (by rw [c7]; decide) (by rw [c7]; rfl) (by decide) ?_
                refine lv_iconst (v := 0) hx hb dX7_count_131 (by decide) ?_
                refine lv_istore_n (lv' := [(3, .int 0), (2, .int 0), (0, .ref aM), (1, .int p0)]) hx hb dX7_count_132 rfl hl (by decide) rfl (fun ls hl => ?_)
                exact hC133 FU 0 p0 0 0 _ _ _ h hP hD hS (lv_sub hl [2, 3, 1, 0] rfl)
              · have h := ifn c7 h
                by_cases c8 : p0 = 7
                · have h := ift c8 h
                  refine lv_tableIn (tgt := 168) hx hb dX7_count_8 (by rw [c8]; decide) (by rw [c8]; decide) (by rw [c8]; rfl) (by decide) ?_
                  refine lv_aload_n hx hb dX7_count_168 rfl (lv_at hl 1 rfl) ?_
                  refine ka_get (v := .int M_taped) (C := RX7) (T := TX7) (Nf := 28) (ref := "BeepNetModel") hx hb hts hiX7 hown hK hP 0 rfl rfl 12 (by decide) k_5 rfl rfl dX7_count_169 ?_
                  obtain ⟨rfl, rfl⟩ := sj2 h
                  exact hret _ _ _ _ _ rfl rfl hP hD hS dX7_count_172
                · have h := ifn c8 h
                  refine lv_tableOut (tgt := 173) hx hb dX7_count_8 (sw_out0_7 c1 c2 c3 c4 c5 c6 c7 c8) (by decide) ?_
                  refine lv_ldc hx hb hown k_6 dX7_count_173 ?_
                  obtain ⟨rfl, rfl⟩ := sj2 h
                  exact hret _ _ _ _ _ rfl rfl hP hD hS dX7_count_175
