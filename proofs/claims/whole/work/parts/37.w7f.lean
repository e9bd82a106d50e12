set_option maxHeartbeats 4000000 in
set_option maxRecDepth 100000 in
theorem c_X7_least (l : Launch) (dC : Nat → ClassId) (dI : Nat → Nat → Nat) (cI cJ cZ cA : ClassId) (aM aM_lane aM_many aM_item aM_beside aM_round aM_reads aM_tape aM_fewest aM_may aM_then aM_cases aM_next aM_trace : Nat) (M_thrown : Int32) (M_status : Int32) (M_posts : Int32) (M_rounds : Int32) (M_read : Int32) (M_taped : Int32) (M_latest : Int32) (M_length : Int32) (M_at : Int32) (M_sort : Int32) (M_from : Int32) (M_till : Int32) (M_fault : Int32) (M_faultAt : Int32) (M_traced : Int32) (M_beside : Nat → Int32) (M_fewest : Nat → Int32) (p0 : Int32) (p1 : Int32) (p2 : Int32) (rr : Int32) (M_thrown_z : Int32) (M_fewest_z : Nat → Int32) (h : fX7_least M_thrown M_posts M_beside M_fewest p0 p1 p2 = some (rr, M_thrown_z, M_fewest_z)) : Cti l yX7_least wsX7_least rmX7_least (dC, dI) (tyL cI cJ cZ cA) [(aM, .inr (7, [.int M_thrown, .int M_status, .ref aM_lane, .ref aM_many, .ref aM_item, .int M_posts, .ref aM_beside, .int M_rounds, .ref aM_round, .int M_read, .ref aM_reads, .ref aM_tape, .int M_taped, .int M_latest, .int M_length, .int M_at, .int M_sort, .int M_from, .int M_till, .int M_fault, .int M_faultAt, .ref aM_fewest, .ref aM_may, .ref aM_then, .ref aM_cases, .ref aM_next, .ref aM_trace, .int M_traced])), (aM_beside, .inl (cI, 8, .inl M_beside)), (aM_fewest, .inl (cI, 256, .inl M_fewest))] [(aM, .inr (7, [.int M_thrown_z, .int M_status, .ref aM_lane, .ref aM_many, .ref aM_item, .int M_posts, .ref aM_beside, .int M_rounds, .ref aM_round, .int M_read, .ref aM_reads, .ref aM_tape, .int M_taped, .int M_latest, .int M_length, .int M_at, .int M_sort, .int M_from, .int M_till, .int M_fault, .int M_faultAt, .ref aM_fewest, .ref aM_may, .ref aM_then, .ref aM_cases, .ref aM_next, .ref aM_trace, .int M_traced])), (aM_beside, .inl (cI, 8, .inl M_beside)), (aM_fewest, .inl (cI, 256, .inl M_fewest_z))] [.ref aM, .int p0, .int p1, .int p2] rr := by
  refine ct_int (ty := .int) (cc := cX7_least) (maxL := 5) (by decide) rfl (Nat.le_of_ble_eq_true rfl) ?_
  intro p e s m args below meth c A Q ls hx hb hml hown hts hA hK hP hD hS hl hret
  have hl : lv_has ls 5 [(0, .ref aM), (1, .int p0), (2, .int p1), (3, .int p2)] := hl
  have k_0 := hts (.fieldLink RX7 31 "BeepNetModel" "fewest" "[I") (by decide +kernel)
  have k_1 := hts (.fieldLink RX7 51 "BeepNetModel" "thrown" "I") (by decide +kernel)
  have k_2 := hts (.constant RX7 71 (-1000001)) (by decide +kernel)
  have hiX7 : ∀ w ∈ u_ws RX7 TX7 28, w ∈ wsX7_least := fun w hw => List.mem_cons_of_mem _ (List.mem_append_right _ hw)
  have hC60 : ∀ (M_thrown : Int32) (M_fewest : Nat → Int32) (x2 : Int32) (x3 : Int32) (H : Heap) (locs : List Loc) (ls : Array Slot), fX7_least_c60 M_posts M_beside M_thrown M_fewest x2 x3 = some (rr, M_thrown_z, M_fewest_z) → va_P (dC, dI) vwCl [(aM, .inr (7, [.int M_thrown, .int M_status, .ref aM_lane, .ref aM_many, .ref aM_item, .int M_posts, .ref aM_beside, .int M_rounds, .ref aM_round, .int M_read, .ref aM_reads, .ref aM_tape, .int M_taped, .int M_latest, .int M_length, .int M_at, .int M_sort, .int M_from, .int M_till, .int M_fault, .int M_faultAt, .ref aM_fewest, .ref aM_may, .ref aM_then, .ref aM_cases, .ref aM_next, .ref aM_trace, .int M_traced])), (aM_beside, .inl (cI, 8, .inl M_beside)), (aM_fewest, .inl (cI, 256, .inl M_fewest))] H → va_D A [(aM, .inr (7, [.int M_thrown, .int M_status, .ref aM_lane, .ref aM_many, .ref aM_item, .int M_posts, .ref aM_beside, .int M_rounds, .ref aM_round, .int M_read, .ref aM_reads, .ref aM_tape, .int M_taped, .int M_latest, .int M_length, .int M_at, .int M_sort, .int M_from, .int M_till, .int M_fault, .int M_faultAt, .ref aM_fewest, .ref aM_may, .ref aM_then, .ref aM_cases, .ref aM_next, .ref aM_trace, .int M_traced])), (aM_beside, .inl (cI, 8, .inl M_beside)), (aM_fewest, .inl (cI, 256, .inl M_fewest))] → va_S A s.heap H locs → lv_has ls 5 [(0, .ref aM), (2, .int x2), (3, .int x3)] → W p l e rmX7_least s m args below meth c H locs 0 0 Q (F0 m 60 ls []) := by
    intro M_thrown M_fewest x2 x3 H locs ls h hP hD hS hl
    unfold fX7_least_c60 at h
    refine lv_iload_n hx hb dX7_least_60 rfl (lv_at hl 2 rfl) ?_
    refine lv_if_ne (tgt := 73) hx hb dX7_least_61 (by decide) (fun c6101 => ?_) (fun c6101 => ?_)
    · have h := ifn c6101 h
      refine lv_iconst (v := 0) hx hb dX7_least_73 (by decide) ?_
      obtain ⟨rfl, rfl, rfl⟩ := sj3 h
      exact hret _ _ _ _ _ rfl rfl hP hD hS dX7_least_74
    · have h := ift c6101 h
      refine lv_aload_n hx hb dX7_least_64 rfl (lv_at hl 0 rfl) ?_
      refine ka_get (v := .ref aM_fewest) (C := RX7) (T := TX7) (Nf := 28) (ref := "BeepNetModel") hx hb hts hiX7 hown hK hP 0 rfl rfl 21 (by decide) k_0 rfl rfl dX7_least_65 ?_
      refine lv_iload_n hx hb dX7_least_68 rfl (lv_at hl 1 rfl) ?_
      obtain ⟨v6102, ev6102, hn6103, h⟩ := ldx_s h
      refine ka_ild hx hb hK hP 2 0 ev6102 rfl rfl hn6103 dX7_least_69 ?_
      refine lv_goto (tgt := 74) hx hb dX7_least_70 (by decide) ?_
      obtain ⟨rfl, rfl, rfl⟩ := sj3 h
      exact hret _ _ _ _ _ rfl rfl hP hD hS dX7_least_74
  have hC78 : ∀ (n : Nat) (M_thrown : Int32) (M_fewest : Nat → Int32) (x1 : Int32) (x2 : Int32) (x4 : Int32) (H : Heap) (locs : List Loc) (ls : Array Slot), fX7_least_c78 M_posts M_beside n M_thrown M_fewest x1 x2 x4 = some (rr, M_thrown_z, M_fewest_z) → va_P (dC, dI) vwCl [(aM, .inr (7, [.int M_thrown, .int M_status, .ref aM_lane, .ref aM_many, .ref aM_item, .int M_posts, .ref aM_beside, .int M_rounds, .ref aM_round, .int M_read, .ref aM_reads, .ref aM_tape, .int M_taped, .int M_latest, .int M_length, .int M_at, .int M_sort, .int M_from, .int M_till, .int M_fault, .int M_faultAt, .ref aM_fewest, .ref aM_may, .ref aM_then, .ref aM_cases, .ref aM_next, .ref aM_trace, .int M_traced])), (aM_beside, .inl (cI, 8, .inl M_beside)), (aM_fewest, .inl (cI, 256, .inl M_fewest))] H → va_D A [(aM, .inr (7, [.int M_thrown, .int M_status, .ref aM_lane, .ref aM_many, .ref aM_item, .int M_posts, .ref aM_beside, .int M_rounds, .ref aM_round, .int M_read, .ref aM_reads, .ref aM_tape, .int M_taped, .int M_latest, .int M_length, .int M_at, .int M_sort, .int M_from, .int M_till, .int M_fault, .int M_faultAt, .ref aM_fewest, .ref aM_may, .ref aM_then, .ref aM_cases, .ref aM_next, .ref aM_trace, .int M_traced])), (aM_beside, .inl (cI, 8, .inl M_beside)), (aM_fewest, .inl (cI, 256, .inl M_fewest))] → va_S A s.heap H locs → lv_has ls 5 [(0, .ref aM), (1, .int x1), (2, .int x2), (4, .int x4)] → W p l e rmX7_least s m args below meth c H locs 0 0 Q (F0 m 78 ls []) := by
    intro n
    induction n with
    | zero => intro M_thrown M_fewest x1 x2 x4 H locs ls h; rw [fX7_least_c78] at h; cases h
    | succ n78 ih78 =>
      intro M_thrown M_fewest x1 x2 x4 H locs ls h hP hD hS hl
      rw [fX7_least_c78] at h
      refine lv_aload_n hx hb dX7_least_78 rfl (lv_at hl 0 rfl) ?_
      refine ka_get (v := .ref aM_fewest) (C := RX7) (T := TX7) (Nf := 28) (ref := "BeepNetModel") hx hb hts hiX7 hown hK hP 0 rfl rfl 21 (by decide) k_0 rfl rfl dX7_least_79 ?_
      refine lv_aload_n hx hb dX7_least_82 rfl (lv_at hl 0 rfl) ?_
      refine lv_iload_n hx hb dX7_least_83 rfl (lv_at hl 1 rfl) ?_
      refine lv_iload_n hx hb dX7_least_84 rfl (lv_at hl 2 rfl) ?_
      refine lv_iload hx hb dX7_least_85 (lv_at hl 3 rfl) ?_
      obtain ⟨r7901, e7902, h⟩ := bd1_s h
      refine kc_vi (rest := [.ref aM_fewest]) (wr := [(aM_fewest, .inl (cI, 256, .inl M_fewest))]) (wF := [(aM, .inr (7, [.int M_thrown, .int M_status, .ref aM_lane, .ref aM_many, .ref aM_item, .int M_posts, .ref aM_beside, .int M_rounds, .ref aM_round, .int M_read, .ref aM_reads, .ref aM_tape, .int M_taped, .int M_latest, .int M_length, .int M_at, .int M_sort, .int M_from, .int M_till, .int M_fault, .int M_faultAt, .ref aM_fewest, .ref aM_may, .ref aM_then, .ref aM_cases, .ref aM_next, .ref aM_trace, .int M_traced])), (aM_beside, .inl (cI, 8, .inl M_beside)), (aM_fewest, .inl (cI, 256, .inl M_fewest))]) ⟨hx, hb, hml, hown, hts⟩ (c_X7_spread l dC dI cI cJ cZ cA aM aM_lane aM_many aM_item aM_beside aM_round aM_reads aM_tape aM_fewest aM_may aM_then aM_cases aM_next aM_trace M_thrown M_status M_posts M_rounds M_read M_taped M_latest M_length M_at M_sort M_from M_till M_fault M_faultAt M_traced M_beside x1 x2 x4 r7901 e7902) (cwV 3 hts gX7_least_X7_spread rfl rfl rfl (by decide +kernel) ⟨Nat.le_of_ble_eq_true rfl, Nat.le_of_ble_eq_true rfl⟩) hK hP hD hS hA [0, 1] [2] [1, 2, 0] 0 rfl rfl rfl rfl (by decide) rfl rfl rfl rfl rfl rfl hl.1 rfl (Nat.le_of_ble_eq_true rfl) dX7_least_87 ⟨Nat.zero_le _, Nat.zero_le _⟩ (fun H locs hP hD hS => ?_)
      obtain ⟨v7903, ev7903, hn7904, h⟩ := ldx_s h
      refine ka_ild hx hb hK hP 2 0 ev7903 rfl rfl hn7904 dX7_least_90 ?_
      refine lv_aload_n hx hb dX7_least_91 rfl (lv_at hl 0 rfl) ?_
      refine ka_get (v := .ref aM_fewest) (C := RX7) (T := TX7) (Nf := 28) (ref := "BeepNetModel") hx hb hts hiX7 hown hK hP 0 rfl rfl 21 (by decide) k_0 rfl rfl dX7_least_92 ?_
      refine lv_iload_n hx hb dX7_least_95 rfl (lv_at hl 2 rfl) ?_
      obtain ⟨v7905, ev7905, hn7906, h⟩ := ldx_s h
      refine ka_ild hx hb hK hP 2 0 ev7905 rfl rfl hn7906 dX7_least_96 ?_
      refine lv_iconst (v := 1) hx hb dX7_least_97 (by decide) ?_
      refine lv_isub hx hb dX7_least_98 ?_
      refine lv_icmp_eq (tgt := 108) hx hb dX7_least_99 (by decide) (fun c7907 => ?_) (fun c7907 => ?_)
      · have h := ift c7907 h
        refine lv_iload hx hb dX7_least_108 (lv_at hl 3 rfl) ?_
        obtain ⟨rfl, rfl, rfl⟩ := sj3 h
        exact hret _ _ _ _ _ rfl rfl hP hD hS dX7_least_110
      · have h := ifn c7907 h
        refine lv_iinc (v := x4 + 1) (lv' := [(4, .int (x4 + 1)), (0, .ref aM), (1, .int x1), (2, .int x2)]) hx hb dX7_least_102 hl (k := 3) rfl rfl (by decide) rfl (fun ls hl => ?_)
        refine lv_goto (tgt := 78) hx hb dX7_least_105 (by decide) ?_
        exact ih78 M_thrown M_fewest x1 x2 (x4 + 1) _ _ _ h hP hD hS (lv_sub hl [1, 2, 3, 0] rfl)
  unfold fX7_least at h
  refine lv_aload_n hx hb dX7_least_0 rfl (lv_at hl 0 rfl) ?_
  refine lv_iconst (v := 0) hx hb dX7_least_1 (by decide) ?_
  refine ka_put (w1 := [(aM, .inr (7, [.int 0, .int M_status, .ref aM_lane, .ref aM_many, .ref aM_item, .int M_posts, .ref aM_beside, .int M_rounds, .ref aM_round, .int M_read, .ref aM_reads, .ref aM_tape, .int M_taped, .int M_latest, .int M_length, .int M_at, .int M_sort, .int M_from, .int M_till, .int M_fault, .int M_faultAt, .ref aM_fewest, .ref aM_may, .ref aM_then, .ref aM_cases, .ref aM_next, .ref aM_trace, .int M_traced])), (aM_beside, .inl (cI, 8, .inl M_beside)), (aM_fewest, .inl (cI, 256, .inl M_fewest))]) (C := RX7) (T := TX7) (Nf := 28) (ref := "BeepNetModel") hx hb hts hiX7 tyX7 tyX7_ok nmX7 hown hK hP hD hS 0 rfl rfl 0 (by decide) k_1 rfl rfl rfl (Nat.le_of_ble_eq_true rfl) dX7_least_2 rfl (fun H locs hP hD hS => ?_)
  refine lv_iload_n hx hb dX7_least_5 rfl (lv_at hl 1 rfl) ?_
  obtain ⟨r1, e2, h⟩ := bd1_s h
  refine kc_si (rest := []) (wr := [(aM, .inr (7, [.int 0, .int M_status, .ref aM_lane, .ref aM_many, .ref aM_item, .int M_posts, .ref aM_beside, .int M_rounds, .ref aM_round, .int M_read, .ref aM_reads, .ref aM_tape, .int M_taped, .int M_latest, .int M_length, .int M_at, .int M_sort, .int M_from, .int M_till, .int M_fault, .int M_faultAt, .ref aM_fewest, .ref aM_may, .ref aM_then, .ref aM_cases, .ref aM_next, .ref aM_trace, .int M_traced])), (aM_beside, .inl (cI, 8, .inl M_beside)), (aM_fewest, .inl (cI, 256, .inl M_fewest))]) (wF := [(aM, .inr (7, [.int 0, .int M_status, .ref aM_lane, .ref aM_many, .ref aM_item, .int M_posts, .ref aM_beside, .int M_rounds, .ref aM_round, .int M_read, .ref aM_reads, .ref aM_tape, .int M_taped, .int M_latest, .int M_length, .int M_at, .int M_sort, .int M_from, .int M_till, .int M_fault, .int M_faultAt, .ref aM_fewest, .ref aM_may, .ref aM_then, .ref aM_cases, .ref aM_next, .ref aM_trace, .int M_traced])), (aM_beside, .inl (cI, 8, .inl M_beside)), (aM_fewest, .inl (cI, 256, .inl M_fewest))]) ⟨hx, hb, hml, hown, hts⟩ (c_X7_isHearing l dC dI cI cJ cZ cA p0 r1 e2) (va_cwS 1 hts gX7_least_X7_isHearing rfl rfl rfl (by decide +kernel) ⟨Nat.le_of_ble_eq_true rfl, Nat.le_of_ble_eq_true rfl⟩) hK hP hD hS hA [] [0, 1, 2] [0, 1, 2] rfl rfl rfl rfl (by decide) rfl rfl rfl hl.1 rfl (Nat.le_of_ble_eq_true rfl) dX7_least_6 ⟨Nat.zero_le _, Nat.zero_le _⟩ (fun H locs hP hD hS => ?_)
  refine lv_if_eq (tgt := 34) hx hb dX7_least_9 (by decide) (fun c3 => ?_) (fun c3 => ?_)
  · have h := ift c3 h
    refine lv_ldc hx hb hown k_2 dX7_least_34 ?_
    obtain ⟨rfl, rfl, rfl⟩ := sj3 h
    exact hret _ _ _ _ _ rfl rfl hP hD hS dX7_least_36
  · have h := ifn c3 h
    refine lv_aload_n hx hb dX7_least_12 rfl (lv_at hl 0 rfl) ?_
    refine lv_iload_n hx hb dX7_least_13 rfl (lv_at hl 2 rfl) ?_
    obtain ⟨r4, e5, h⟩ := bd1_s h
    refine kc_vi (rest := []) (wr := [(aM_beside, .inl (cI, 8, .inl M_beside)), (aM_fewest, .inl (cI, 256, .inl M_fewest))]) (wF := [(aM, .inr (7, [.int 0, .int M_status, .ref aM_lane, .ref aM_many, .ref aM_item, .int M_posts, .ref aM_beside, .int M_rounds, .ref aM_round, .int M_read, .ref aM_reads, .ref aM_tape, .int M_taped, .int M_latest, .int M_length, .int M_at, .int M_sort, .int M_from, .int M_till, .int M_fault, .int M_faultAt, .ref aM_fewest, .ref aM_may, .ref aM_then, .ref aM_cases, .ref aM_next, .ref aM_trace, .int M_traced])), (aM_beside, .inl (cI, 8, .inl M_beside)), (aM_fewest, .inl (cI, 256, .inl M_fewest))]) ⟨hx, hb, hml, hown, hts⟩ (c_X7_isSet l dC dI cI cJ cZ cA aM aM_lane aM_many aM_item aM_beside aM_round aM_reads aM_tape aM_fewest aM_may aM_then aM_cases aM_next aM_trace 0 M_status M_posts M_rounds M_read M_taped M_latest M_length M_at M_sort M_from M_till M_fault M_faultAt M_traced p1 r4 e5) (cwV 1 hts gX7_least_X7_isSet rfl rfl rfl (by decide +kernel) ⟨Nat.le_of_ble_eq_true rfl, Nat.le_of_ble_eq_true rfl⟩) hK hP hD hS hA [0] [1, 2] [2, 0, 1] 0 rfl rfl rfl rfl (by decide) rfl rfl rfl rfl rfl rfl hl.1 rfl (Nat.le_of_ble_eq_true rfl) dX7_least_14 ⟨Nat.zero_le _, Nat.zero_le _⟩ (fun H locs hP hD hS => ?_)
    refine lv_if_eq (tgt := 34) hx hb dX7_least_17 (by decide) (fun c6 => ?_) (fun c6 => ?_)
    · have h := ift c6 h
      refine lv_ldc hx hb hown k_2 dX7_least_34 ?_
      obtain ⟨rfl, rfl, rfl⟩ := sj3 h
      exact hret _ _ _ _ _ rfl rfl hP hD hS dX7_least_36
    · have h := ifn c6 h
      refine lv_iload_n hx hb dX7_least_20 rfl (lv_at hl 2 rfl) ?_
      refine lv_if_eq (tgt := 34) hx hb dX7_least_21 (by decide) (fun c7 => ?_) (fun c7 => ?_)
      · have h := ift c7 h
        refine lv_ldc hx hb hown k_2 dX7_least_34 ?_
        obtain ⟨rfl, rfl, rfl⟩ := sj3 h
        exact hret _ _ _ _ _ rfl rfl hP hD hS dX7_least_36
      · have h := ifn c7 h
        refine lv_iload_n hx hb dX7_least_24 rfl (lv_at hl 3 rfl) ?_
        refine lv_i2l hx hb dX7_least_25 rfl ?_
        refine lv_lconst (v := 0) hx hb dX7_least_26 (by decide) ?_
        refine lv_lconst (v := 1) hx hb dX7_least_27 (by decide) ?_
        obtain ⟨r8, e9, h⟩ := bd1_s h
        refine kc_si (rest := []) (wr := [(aM, .inr (7, [.int 0, .int M_status, .ref aM_lane, .ref aM_many, .ref aM_item, .int M_posts, .ref aM_beside, .int M_rounds, .ref aM_round, .int M_read, .ref aM_reads, .ref aM_tape, .int M_taped, .int M_latest, .int M_length, .int M_at, .int M_sort, .int M_from, .int M_till, .int M_fault, .int M_faultAt, .ref aM_fewest, .ref aM_may, .ref aM_then, .ref aM_cases, .ref aM_next, .ref aM_trace, .int M_traced])), (aM_beside, .inl (cI, 8, .inl M_beside)), (aM_fewest, .inl (cI, 256, .inl M_fewest))]) (wF := [(aM, .inr (7, [.int 0, .int M_status, .ref aM_lane, .ref aM_many, .ref aM_item, .int M_posts, .ref aM_beside, .int M_rounds, .ref aM_round, .int M_read, .ref aM_reads, .ref aM_tape, .int M_taped, .int M_latest, .int M_length, .int M_at, .int M_sort, .int M_from, .int M_till, .int M_fault, .int M_faultAt, .ref aM_fewest, .ref aM_may, .ref aM_then, .ref aM_cases, .ref aM_next, .ref aM_trace, .int M_traced])), (aM_beside, .inl (cI, 8, .inl M_beside)), (aM_fewest, .inl (cI, 256, .inl M_fewest))]) ⟨hx, hb, hml, hown, hts⟩ (c_X7_in l dC dI cI cJ cZ cA p2.toInt64 0 1 r8 e9) (va_cwS 3 hts gX7_least_X7_in rfl rfl rfl (by decide +kernel) ⟨Nat.le_of_ble_eq_true rfl, Nat.le_of_ble_eq_true rfl⟩) hK hP hD hS hA [] [0, 1, 2] [0, 1, 2] rfl rfl rfl rfl (by decide) rfl rfl rfl hl.1 rfl (Nat.le_of_ble_eq_true rfl) dX7_least_28 ⟨Nat.zero_le _, Nat.zero_le _⟩ (fun H locs hP hD hS => ?_)
        refine lv_if_ne (tgt := 37) hx hb dX7_least_31 (by decide) (fun c10 => ?_) (fun c10 => ?_)
        · have h := ifn c10 h
          refine lv_aload_n hx hb dX7_least_37 rfl (lv_at hl 0 rfl) ?_
          refine lv_iload_n hx hb dX7_least_38 rfl (lv_at hl 1 rfl) ?_
          refine lv_aload_n hx hb dX7_least_39 rfl (lv_at hl 0 rfl) ?_
          refine lv_iload_n hx hb dX7_least_40 rfl (lv_at hl 2 rfl) ?_
          obtain ⟨r11, e12, h⟩ := bd1_s h
          refine kc_vi (rest := [.int p0, .ref aM]) (wr := [(aM_fewest, .inl (cI, 256, .inl M_fewest))]) (wF := [(aM, .inr (7, [.int 0, .int M_status, .ref aM_lane, .ref aM_many, .ref aM_item, .int M_posts, .ref aM_beside, .int M_rounds, .ref aM_round, .int M_read, .ref aM_reads, .ref aM_tape, .int M_taped, .int M_latest, .int M_length, .int M_at, .int M_sort, .int M_from, .int M_till, .int M_fault, .int M_faultAt, .ref aM_fewest, .ref aM_may, .ref aM_then, .ref aM_cases, .ref aM_next, .ref aM_trace, .int M_traced])), (aM_beside, .inl (cI, 8, .inl M_beside)), (aM_fewest, .inl (cI, 256, .inl M_fewest))]) ⟨hx, hb, hml, hown, hts⟩ (c_X7_reach l dC dI cI cJ cZ cA aM aM_lane aM_many aM_item aM_beside aM_round aM_reads aM_tape aM_fewest aM_may aM_then aM_cases aM_next aM_trace 0 M_status M_posts M_rounds M_read M_taped M_latest M_length M_at M_sort M_from M_till M_fault M_faultAt M_traced M_beside p1 r11 e12) (cwV 1 hts gX7_least_X7_reach rfl rfl rfl (by decide +kernel) ⟨Nat.le_of_ble_eq_true rfl, Nat.le_of_ble_eq_true rfl⟩) hK hP hD hS hA [0, 1] [2] [1, 2, 0] 0 rfl rfl rfl rfl (by decide) rfl rfl rfl rfl rfl rfl hl.1 rfl (Nat.le_of_ble_eq_true rfl) dX7_least_41 ⟨Nat.zero_le _, Nat.zero_le _⟩ (fun H locs hP hD hS => ?_)
          obtain ⟨M_fewest_13, e14, h⟩ := bd1_s h
          refine kc_vv (rest := []) (wr := []) (wF := [(aM, .inr (7, [.int 0, .int M_status, .ref aM_lane, .ref aM_many, .ref aM_item, .int M_posts, .ref aM_beside, .int M_rounds, .ref aM_round, .int M_read, .ref aM_reads, .ref aM_tape, .int M_taped, .int M_latest, .int M_length, .int M_at, .int M_sort, .int M_from, .int M_till, .int M_fault, .int M_faultAt, .ref aM_fewest, .ref aM_may, .ref aM_then, .ref aM_cases, .ref aM_next, .ref aM_trace, .int M_traced])), (aM_beside, .inl (cI, 8, .inl M_beside)), (aM_fewest, .inl (cI, 256, .inl M_fewest_13))]) ⟨hx, hb, hml, hown, hts⟩ (c_X7_findFewest l dC dI cI cJ cZ cA aM aM_lane aM_many aM_item aM_beside aM_round aM_reads aM_tape aM_fewest aM_may aM_then aM_cases aM_next aM_trace 0 M_status M_posts M_rounds M_read M_taped M_latest M_length M_at M_sort M_from M_till M_fault M_faultAt M_traced M_beside M_fewest p0 r11 M_fewest_13 e14) (cwV 2 hts gX7_least_X7_findFewest rfl rfl rfl (by decide +kernel) ⟨Nat.le_of_ble_eq_true rfl, Nat.le_of_ble_eq_true rfl⟩) hK hP hD hS hA [0, 1, 2] [] [0, 1, 2] 0 rfl rfl rfl rfl (by decide) rfl rfl rfl rfl rfl rfl hl.1 rfl (Nat.le_of_ble_eq_true rfl) dX7_least_44 ⟨Nat.zero_le _, Nat.zero_le _⟩ (fun H locs hP hD hS => ?_)
          refine lv_iload_n hx hb dX7_least_47 rfl (lv_at hl 3 rfl) ?_
          refine lv_if_eq (tgt := 60) hx hb dX7_least_48 (by decide) (fun c15 => ?_) (fun c15 => ?_)
          · have h := ift c15 h
            exact hC60 0 M_fewest_13 p1 p2 _ _ _ h hP hD hS (lv_sub hl [0, 2, 3] rfl)
          · have h := ifn c15 h
            refine lv_aload_n hx hb dX7_least_51 rfl (lv_at hl 0 rfl) ?_
            refine ka_get (v := .ref aM_fewest) (C := RX7) (T := TX7) (Nf := 28) (ref := "BeepNetModel") hx hb hts hiX7 hown hK hP 0 rfl rfl 21 (by decide) k_0 rfl rfl dX7_least_52 ?_
            refine lv_iload_n hx hb dX7_least_55 rfl (lv_at hl 2 rfl) ?_
            obtain ⟨v16, ev16, hn17, h⟩ := ldx_s h
            refine ka_ild hx hb hK hP 2 0 ev16 rfl rfl hn17 dX7_least_56 ?_
            refine lv_if_ne (tgt := 75) hx hb dX7_least_57 (by decide) (fun c18 => ?_) (fun c18 => ?_)
            · have h := ifn c18 h
              refine lv_iconst (v := 0) hx hb dX7_least_75 (by decide) ?_
              refine lv_istore (lv' := [(4, .int 0), (0, .ref aM), (1, .int p0), (2, .int p1), (3, .int p2)]) hx hb dX7_least_76 hl (by decide) rfl (fun ls hl => ?_)
              exact hC78 FU 0 M_fewest_13 p0 p1 0 _ _ _ h hP hD hS (lv_sub hl [1, 2, 3, 0] rfl)
            · have h := ift c18 h
              exact hC60 0 M_fewest_13 p1 p2 _ _ _ h hP hD hS (lv_sub hl [0, 2, 3] rfl)
        · have h := ift c10 h
          refine lv_ldc hx hb hown k_2 dX7_least_34 ?_
          obtain ⟨rfl, rfl, rfl⟩ := sj3 h
          exact hret _ _ _ _ _ rfl rfl hP hD hS dX7_least_36
set_option maxHeartbeats 4000000 in
set_option maxRecDepth 100000 in
theorem c_X7_jammed (l : Launch) (dC : Nat → ClassId) (dI : Nat → Nat → Nat) (cI cJ cZ cA : ClassId) (aM aM_lane aM_many aM_item aM_beside aM_round aM_reads aM_tape aM_fewest aM_may aM_then aM_cases aM_next aM_trace : Nat) (M_thrown : Int32) (M_status : Int32) (M_posts : Int32) (M_rounds : Int32) (M_read : Int32) (M_taped : Int32) (M_latest : Int32) (M_length : Int32) (M_at : Int32) (M_sort : Int32) (M_from : Int32) (M_till : Int32) (M_fault : Int32) (M_faultAt : Int32) (M_traced : Int32) (M_beside : Nat → Int32) (M_round : Nat → Int32) (M_may : Nat → Int32) (M_then : Nat → Int32) (p0 : Int32) (p1 : Int32) (p2 : Int32) (rr : Int32) (M_thrown_z : Int32) (M_may_z : Nat → Int32) (M_then_z : Nat → Int32) (h : fX7_jammed M_thrown M_posts M_rounds M_beside M_round M_may M_then p0 p1 p2 = some (rr, M_thrown_z, M_may_z, M_then_z)) : Cti l yX7_jammed wsX7_jammed rmX7_jammed (dC, dI) (tyL cI cJ cZ cA) [(aM, .inr (7, [.int M_thrown, .int M_status, .ref aM_lane, .ref aM_many, .ref aM_item, .int M_posts, .ref aM_beside, .int M_rounds, .ref aM_round, .int M_read, .ref aM_reads, .ref aM_tape, .int M_taped, .int M_latest, .int M_length, .int M_at, .int M_sort, .int M_from, .int M_till, .int M_fault, .int M_faultAt, .ref aM_fewest, .ref aM_may, .ref aM_then, .ref aM_cases, .ref aM_next, .ref aM_trace, .int M_traced])), (aM_beside, .inl (cI, 8, .inl M_beside)), (aM_round, .inl (cI, 20, .inl M_round)), (aM_may, .inl (cZ, 1536, .inl M_may)), (aM_then, .inl (cZ, 1536, .inl M_then))] [(aM, .inr (7, [.int M_thrown_z, .int M_status, .ref aM_lane, .ref aM_many, .ref aM_item, .int M_posts, .ref aM_beside, .int M_rounds, .ref aM_round, .int M_read, .ref aM_reads, .ref aM_tape, .int M_taped, .int M_latest, .int M_length, .int M_at, .int M_sort, .int M_from, .int M_till, .int M_fault, .int M_faultAt, .ref aM_fewest, .ref aM_may, .ref aM_then, .ref aM_cases, .ref aM_next, .ref aM_trace, .int M_traced])), (aM_beside, .inl (cI, 8, .inl M_beside)), (aM_round, .inl (cI, 20, .inl M_round)), (aM_may, .inl (cZ, 1536, .inl M_may_z)), (aM_then, .inl (cZ, 1536, .inl M_then_z))] [.ref aM, .int p0, .int p1, .int p2] rr := by
  refine ct_int (ty := .int) (cc := cX7_jammed) (maxL := 8) (by decide) rfl (Nat.le_of_ble_eq_true rfl) ?_
  intro p e s m args below meth c A Q ls hx hb hml hown hts hA hK hP hD hS hl hret
  have hl : lv_has ls 8 [(0, .ref aM), (1, .int p0), (2, .int p1), (3, .int p2)] := hl
  have k_0 := hts (.fieldLink RX7 38 "BeepNetModel" "then" "[Z") (by decide +kernel)
  have k_1 := hts (.fieldLink RX7 34 "BeepNetModel" "may" "[Z") (by decide +kernel)
  have k_2 := hts (.constant RX7 86 (-1000000)) (by decide +kernel)
  have k_3 := hts (.fieldLink RX7 51 "BeepNetModel" "thrown" "I") (by decide +kernel)
  have k_4 := hts (.constant RX7 71 (-1000001)) (by decide +kernel)
  have k_5 := hts (.constantLong RX7 200 (5)) (by decide +kernel)
  have k_6 := hts (.fieldLink RX7 187 "BeepNetModel" "rounds" "I") (by decide +kernel)
  have k_7 := hts (.constant RX7 195 (-1000002)) (by decide +kernel)
  have hiX7 : ∀ w ∈ u_ws RX7 TX7 28, w ∈ wsX7_jammed := fun w hw => List.mem_cons_of_mem _ (List.mem_append_right _ hw)
  have hC94 : ∀ (n : Nat) (M_thrown : Int32) (M_may : Nat → Int32) (M_then : Nat → Int32) (x1 : Int32) (x3 : Int32) (x4 : Int32) (x5 : Int32) (H : Heap) (locs : List Loc) (ls : Array Slot), fX7_jammed_c94 M_posts M_rounds M_beside M_round n M_thrown M_may M_then x1 x3 x4 x5 = some (rr, M_thrown_z, M_may_z, M_then_z) → va_P (dC, dI) vwCl [(aM, .inr (7, [.int M_thrown, .int M_status, .ref aM_lane, .ref aM_many, .ref aM_item, .int M_posts, .ref aM_beside, .int M_rounds, .ref aM_round, .int M_read, .ref aM_reads, .ref aM_tape, .int M_taped, .int M_latest, .int M_length, .int M_at, .int M_sort, .int M_from, .int M_till, .int M_fault, .int M_faultAt, .ref aM_fewest, .ref aM_may, .ref aM_then, .ref aM_cases, .ref aM_next, .ref aM_trace, .int M_traced])), (aM_beside, .inl (cI, 8, .inl M_beside)), (aM_round, .inl (cI, 20, .inl M_round)), (aM_may, .inl (cZ, 1536, .inl M_may)), (aM_then, .inl (cZ, 1536, .inl M_then))] H → va_D A [(aM, .inr (7, [.int M_thrown, .int M_status, .ref aM_lane, .ref aM_many, .ref aM_item, .int M_posts, .ref aM_beside, .int M_rounds, .ref aM_round, .int M_read, .ref aM_reads, .ref aM_tape, .int M_taped, .int M_latest, .int M_length, .int M_at, .int M_sort, .int M_from, .int M_till, .int M_fault, .int M_faultAt, .ref aM_fewest, .ref aM_may, .ref aM_then, .ref aM_cases, .ref aM_next, .ref aM_trace, .int M_traced])), (aM_beside, .inl (cI, 8, .inl M_beside)), (aM_round, .inl (cI, 20, .inl M_round)), (aM_may, .inl (cZ, 1536, .inl M_may)), (aM_then, .inl (cZ, 1536, .inl M_then))] → va_S A s.heap H locs → lv_has ls 8 [(0, .ref aM), (1, .int x1), (3, .int x3), (4, .int x4), (5, .int x5)] → W p l e rmX7_jammed s m args below meth c H locs 0 0 Q (F0 m 94 ls []) := by
    intro n
    induction n with
    | zero => intro M_thrown M_may M_then x1 x3 x4 x5 H locs ls h; rw [fX7_jammed_c94] at h; cases h
    | succ n94 ih94 =>
      have hC256 : ∀ (n : Nat) (M_thrown : Int32) (M_may : Nat → Int32) (M_then : Nat → Int32) (x1 : Int32) (x3 : Int32) (x4 : Int32) (x5 : Int32) (x7 : Int32) (H : Heap) (locs : List Loc) (ls : Array Slot), fX7_jammed_c256 M_posts M_rounds M_beside M_round (fX7_jammed_c94 M_posts M_rounds M_beside M_round n94) n M_thrown M_may M_then x1 x3 x4 x5 x7 = some (rr, M_thrown_z, M_may_z, M_then_z) → va_P (dC, dI) vwCl [(aM, .inr (7, [.int M_thrown, .int M_status, .ref aM_lane, .ref aM_many, .ref aM_item, .int M_posts, .ref aM_beside, .int M_rounds, .ref aM_round, .int M_read, .ref aM_reads, .ref aM_tape, .int M_taped, .int M_latest, .int M_length, .int M_at, .int M_sort, .int M_from, .int M_till, .int M_fault, .int M_faultAt, .ref aM_fewest, .ref aM_may, .ref aM_then, .ref aM_cases, .ref aM_next, .ref aM_trace, .int M_traced])), (aM_beside, .inl (cI, 8, .inl M_beside)), (aM_round, .inl (cI, 20, .inl M_round)), (aM_may, .inl (cZ, 1536, .inl M_may)), (aM_then, .inl (cZ, 1536, .inl M_then))] H → va_D A [(aM, .inr (7, [.int M_thrown, .int M_status, .ref aM_lane, .ref aM_many, .ref aM_item, .int M_posts, .ref aM_beside, .int M_rounds, .ref aM_round, .int M_read, .ref aM_reads, .ref aM_tape, .int M_taped, .int M_latest, .int M_length, .int M_at, .int M_sort, .int M_from, .int M_till, .int M_fault, .int M_faultAt, .ref aM_fewest, .ref aM_may, .ref aM_then, .ref aM_cases, .ref aM_next, .ref aM_trace, .int M_traced])), (aM_beside, .inl (cI, 8, .inl M_beside)), (aM_round, .inl (cI, 20, .inl M_round)), (aM_may, .inl (cZ, 1536, .inl M_may)), (aM_then, .inl (cZ, 1536, .inl M_then))] → va_S A s.heap H locs → lv_has ls 8 [(0, .ref aM), (1, .int x1), (3, .int x3), (4, .int x4), (5, .int x5), (7, .int x7)] → W p l e rmX7_jammed s m args below meth c H locs 0 0 Q (F0 m 256 ls []) := by
        intro n
        induction n with
        | zero => intro M_thrown M_may M_then x1 x3 x4 x5 x7 H locs ls h; rw [fX7_jammed_c256] at h; cases h
        | succ n256 ih256 =>
          intro M_thrown M_may M_then x1 x3 x4 x5 x7 H locs ls h hP hD hS hl
          rw [fX7_jammed_c256] at h
          refine lv_iload hx hb dX7_jammed_256 (lv_at hl 5 rfl) ?_
          refine lv_sipush (v := 1536) hx hb dX7_jammed_258 (by decide) ?_
          refine lv_icmp_ge (tgt := 284) hx hb dX7_jammed_261 (by decide) (fun c25701 => ?_) (fun c25701 => ?_)
          · have h := ift c25701 h
            refine lv_iinc (v := x5 + 1) (lv' := [(5, .int (x5 + 1)), (0, .ref aM), (1, .int x1), (3, .int x3), (4, .int x4), (7, .int x7)]) hx hb dX7_jammed_284 hl (k := 4) rfl rfl (by decide) rfl (fun ls hl => ?_)
            refine lv_goto (tgt := 94) hx hb dX7_jammed_287 (by decide) ?_
            exact ih94 M_thrown M_may M_then x1 x3 x4 (x5 + 1) _ _ _ h hP hD hS (lv_sub hl [1, 2, 3, 4, 0] rfl)
          · have h := ifn c25701 h
            refine lv_aload_n hx hb dX7_jammed_264 rfl (lv_at hl 0 rfl) ?_
            refine ka_get (v := .ref aM_may) (C := RX7) (T := TX7) (Nf := 28) (ref := "BeepNetModel") hx hb hts hiX7 hown hK hP 0 rfl rfl 22 (by decide) k_1 rfl rfl dX7_jammed_265 ?_
            refine lv_iload hx hb dX7_jammed_268 (lv_at hl 5 rfl) ?_
            refine lv_aload_n hx hb dX7_jammed_270 rfl (lv_at hl 0 rfl) ?_
            refine ka_get (v := .ref aM_then) (C := RX7) (T := TX7) (Nf := 28) (ref := "BeepNetModel") hx hb hts hiX7 hown hK hP 0 rfl rfl 23 (by decide) k_0 rfl rfl dX7_jammed_271 ?_
            refine lv_iload hx hb dX7_jammed_274 (lv_at hl 5 rfl) ?_
            obtain ⟨v25702, ev25702, hn25703, h⟩ := ldx_s h
            refine ka_zld hx hb hK hP 4 2 ev25702 rfl rfl hn25703 dX7_jammed_276 ?_
            obtain ⟨g25704, eg25704, hn25705, h⟩ := sti_s h
            refine ka_zst (w1 := [(aM, .inr (7, [.int M_thrown, .int M_status, .ref aM_lane, .ref aM_many, .ref aM_item, .int M_posts, .ref aM_beside, .int M_rounds, .ref aM_round, .int M_read, .ref aM_reads, .ref aM_tape, .int M_taped, .int M_latest, .int M_length, .int M_at, .int M_sort, .int M_from, .int M_till, .int M_fault, .int M_faultAt, .ref aM_fewest, .ref aM_may, .ref aM_then, .ref aM_cases, .ref aM_next, .ref aM_trace, .int M_traced])), (aM_beside, .inl (cI, 8, .inl M_beside)), (aM_round, .inl (cI, 20, .inl M_round)), (aM_may, .inl (cZ, 1536, .inl g25704)), (aM_then, .inl (cZ, 1536, .inl M_then))]) hx hb hK hP hD hS 3 2 eg25704 rfl rfl hn25705 dX7_jammed_277 rfl (fun H locs hP hD hS => ?_)
            refine lv_iinc (v := x7 + 1) (lv' := [(7, .int (x7 + 1)), (0, .ref aM), (1, .int x1), (3, .int x3), (4, .int x4), (5, .int x5)]) hx hb dX7_jammed_278 hl (k := 5) rfl rfl (by decide) rfl (fun ls hl => ?_)
            refine lv_goto (tgt := 256) hx hb dX7_jammed_281 (by decide) ?_
            exact ih256 M_thrown g25704 M_then x1 x3 x4 x5 (x7 + 1) _ _ _ h hP hD hS (lv_sub hl [1, 2, 3, 4, 5, 0] rfl)
      have hC173 : ∀ (n : Nat) (M_thrown : Int32) (M_may : Nat → Int32) (M_then : Nat → Int32) (x1 : Int32) (x3 : Int32) (x4 : Int32) (x5 : Int32) (x7 : Int32) (H : Heap) (locs : List Loc) (ls : Array Slot), fX7_jammed_c173 M_posts M_rounds M_beside M_round (fX7_jammed_c94 M_posts M_rounds M_beside M_round n94) n M_thrown M_may M_then x1 x3 x4 x5 x7 = some (rr, M_thrown_z, M_may_z, M_then_z) → va_P (dC, dI) vwCl [(aM, .inr (7, [.int M_thrown, .int M_status, .ref aM_lane, .ref aM_many, .ref aM_item, .int M_posts, .ref aM_beside, .int M_rounds, .ref aM_round, .int M_read, .ref aM_reads, .ref aM_tape, .int M_taped, .int M_latest, .int M_length, .int M_at, .int M_sort, .int M_from, .int M_till, .int M_fault, .int M_faultAt, .ref aM_fewest, .ref aM_may, .ref aM_then, .ref aM_cases, .ref aM_next, .ref aM_trace, .int M_traced])), (aM_beside, .inl (cI, 8, .inl M_beside)), (aM_round, .inl (cI, 20, .inl M_round)), (aM_may, .inl (cZ, 1536, .inl M_may)), (aM_then, .inl (cZ, 1536, .inl M_then))] H → va_D A [(aM, .inr (7, [.int M_thrown, .int M_status, .ref aM_lane, .ref aM_many, .ref aM_item, .int M_posts, .ref aM_beside, .int M_rounds, .ref aM_round, .int M_read, .ref aM_reads, .ref aM_tape, .int M_taped, .int M_latest, .int M_length, .int M_at, .int M_sort, .int M_from, .int M_till, .int M_fault, .int M_faultAt, .ref aM_fewest, .ref aM_may, .ref aM_then, .ref aM_cases, .ref aM_next, .ref aM_trace, .int M_traced])), (aM_beside, .inl (cI, 8, .inl M_beside)), (aM_round, .inl (cI, 20, .inl M_round)), (aM_may, .inl (cZ, 1536, .inl M_may)), (aM_then, .inl (cZ, 1536, .inl M_then))] → va_S A s.heap H locs → lv_has ls 8 [(0, .ref aM), (1, .int x1), (3, .int x3), (4, .int x4), (5, .int x5), (7, .int x7)] → W p l e rmX7_jammed s m args below meth c H locs 0 0 Q (F0 m 173 ls []) := by
        intro n
        induction n with
        | zero => intro M_thrown M_may M_then x1 x3 x4 x5 x7 H locs ls h; rw [fX7_jammed_c173] at h; cases h
        | succ n173 ih173 =>
          intro M_thrown M_may M_then x1 x3 x4 x5 x7 H locs ls h hP hD hS hl
          rw [fX7_jammed_c173] at h
          refine lv_iload hx hb dX7_jammed_173 (lv_at hl 5 rfl) ?_
          refine lv_sipush (v := 1536) hx hb dX7_jammed_175 (by decide) ?_
          refine lv_icmp_ge (tgt := 253) hx hb dX7_jammed_178 (by decide) (fun c17401 => ?_) (fun c17401 => ?_)
          · have h := ift c17401 h
            refine lv_iconst (v := 0) hx hb dX7_jammed_253 (by decide) ?_
            refine lv_istore (lv' := [(7, .int 0), (0, .ref aM), (1, .int x1), (3, .int x3), (4, .int x4), (5, .int x5)]) hx hb dX7_jammed_254 hl (by decide) rfl (fun ls hl => ?_)
            exact hC256 FU M_thrown M_may M_then x1 x3 x4 x5 0 _ _ _ h hP hD hS (lv_sub hl [1, 2, 3, 4, 5, 0] rfl)
          · have h := ifn c17401 h
            refine lv_aload_n hx hb dX7_jammed_181 rfl (lv_at hl 0 rfl) ?_
            refine ka_get (v := .ref aM_may) (C := RX7) (T := TX7) (Nf := 28) (ref := "BeepNetModel") hx hb hts hiX7 hown hK hP 0 rfl rfl 22 (by decide) k_1 rfl rfl dX7_jammed_182 ?_
            refine lv_iload hx hb dX7_jammed_185 (lv_at hl 5 rfl) ?_
            obtain ⟨v17402, ev17402, hn17403, h⟩ := ldx_s h
            refine ka_zld hx hb hK hP 3 2 ev17402 rfl rfl hn17403 dX7_jammed_187 ?_
            refine lv_if_eq (tgt := 247) hx hb dX7_jammed_188 (by decide) (fun c17404 => ?_) (fun c17404 => ?_)
            · have h := ift c17404 h
              refine lv_iinc (v := x7 + 1) (lv' := [(7, .int (x7 + 1)), (0, .ref aM), (1, .int x1), (3, .int x3), (4, .int x4), (5, .int x5)]) hx hb dX7_jammed_247 hl (k := 5) rfl rfl (by decide) rfl (fun ls hl => ?_)
              refine lv_goto (tgt := 173) hx hb dX7_jammed_250 (by decide) ?_
              exact ih173 M_thrown M_may M_then x1 x3 x4 x5 (x7 + 1) _ _ _ h hP hD hS (lv_sub hl [1, 2, 3, 4, 5, 0] rfl)
            · have h := ifn c17404 h
              refine lv_aload_n hx hb dX7_jammed_191 rfl (lv_at hl 0 rfl) ?_
              refine ka_get (v := .ref aM_then) (C := RX7) (T := TX7) (Nf := 28) (ref := "BeepNetModel") hx hb hts hiX7 hown hK hP 0 rfl rfl 23 (by decide) k_0 rfl rfl dX7_jammed_192 ?_
              refine lv_sipush (v := 256) hx hb dX7_jammed_195 (by decide) ?_
              refine lv_iload hx hb dX7_jammed_198 (lv_at hl 5 rfl) ?_
              refine lv_sipush (v := 256) hx hb dX7_jammed_200 (by decide) ?_
              refine lv_idiv hx hb dX7_jammed_203 (by decide) ?_
              refine lv_imul hx hb dX7_jammed_204 ?_
              refine lv_aload_n hx hb dX7_jammed_205 rfl (lv_at hl 0 rfl) ?_
              refine lv_iload_n hx hb dX7_jammed_206 rfl (lv_at hl 1 rfl) ?_
              refine lv_iload hx hb dX7_jammed_207 (lv_at hl 5 rfl) ?_
              refine lv_sipush (v := 256) hx hb dX7_jammed_209 (by decide) ?_
              refine lv_irem hx hb dX7_jammed_212 (by decide) ?_
              refine lv_aload_n hx hb dX7_jammed_213 rfl (lv_at hl 0 rfl) ?_
              refine lv_iload hx hb dX7_jammed_214 (lv_at hl 4 rfl) ?_
              obtain ⟨r17405, e17406, h⟩ := bd1_s h
              refine kc_vi (rest := [.int (x7 - x7 / 256 * 256), .int x1, .ref aM, .int ((256 : Int32) * (x7 / 256)), .ref aM_then]) (wr := [(aM_beside, .inl (cI, 8, .inl M_beside)), (aM_may, .inl (cZ, 1536, .inl M_may)), (aM_then, .inl (cZ, 1536, .inl M_then))]) (wF := [(aM, .inr (7, [.int M_thrown, .int M_status, .ref aM_lane, .ref aM_many, .ref aM_item, .int M_posts, .ref aM_beside, .int M_rounds, .ref aM_round, .int M_read, .ref aM_reads, .ref aM_tape, .int M_taped, .int M_latest, .int M_length, .int M_at, .int M_sort, .int M_from, .int M_till, .int M_fault, .int M_faultAt, .ref aM_fewest, .ref aM_may, .ref aM_then, .ref aM_cases, .ref aM_next, .ref aM_trace, .int M_traced])), (aM_beside, .inl (cI, 8, .inl M_beside)), (aM_round, .inl (cI, 20, .inl M_round)), (aM_may, .inl (cZ, 1536, .inl M_may)), (aM_then, .inl (cZ, 1536, .inl M_then))]) ⟨hx, hb, hml, hown, hts⟩ (c_X7_soundsIn l dC dI cI cJ cZ cA aM aM_lane aM_many aM_item aM_beside aM_round aM_reads aM_tape aM_fewest aM_may aM_then aM_cases aM_next aM_trace M_thrown M_status M_posts M_rounds M_read M_taped M_latest M_length M_at M_sort M_from M_till M_fault M_faultAt M_traced M_round x5 r17405 e17406) (cwV 1 hts gX7_jammed_X7_soundsIn rfl rfl rfl (by decide +kernel) ⟨Nat.le_of_ble_eq_true rfl, Nat.le_of_ble_eq_true rfl⟩) hK hP hD hS hA [0, 2] [1, 3, 4] [3, 0, 4, 1, 2] 0 rfl rfl rfl rfl (by decide) rfl rfl rfl rfl rfl rfl hl.1 rfl (Nat.le_of_ble_eq_true rfl) dX7_jammed_216 ⟨Nat.zero_le _, Nat.zero_le _⟩ (fun H locs hP hD hS => ?_)
              obtain ⟨r17407, e17408, h⟩ := bd1_s h
              refine kc_vi (rest := [.int ((256 : Int32) * (x7 / 256)), .ref aM_then]) (wr := [(aM_round, .inl (cI, 20, .inl M_round)), (aM_may, .inl (cZ, 1536, .inl M_may)), (aM_then, .inl (cZ, 1536, .inl M_then))]) (wF := [(aM, .inr (7, [.int M_thrown, .int M_status, .ref aM_lane, .ref aM_many, .ref aM_item, .int M_posts, .ref aM_beside, .int M_rounds, .ref aM_round, .int M_read, .ref aM_reads, .ref aM_tape, .int M_taped, .int M_latest, .int M_length, .int M_at, .int M_sort, .int M_from, .int M_till, .int M_fault, .int M_faultAt, .ref aM_fewest, .ref aM_may, .ref aM_then, .ref aM_cases, .ref aM_next, .ref aM_trace, .int M_traced])), (aM_beside, .inl (cI, 8, .inl M_beside)), (aM_round, .inl (cI, 20, .inl M_round)), (aM_may, .inl (cZ, 1536, .inl M_may)), (aM_then, .inl (cZ, 1536, .inl M_then))]) ⟨hx, hb, hml, hown, hts⟩ (c_X7_spread l dC dI cI cJ cZ cA aM aM_lane aM_many aM_item aM_beside aM_round aM_reads aM_tape aM_fewest aM_may aM_then aM_cases aM_next aM_trace M_thrown M_status M_posts M_rounds M_read M_taped M_latest M_length M_at M_sort M_from M_till M_fault M_faultAt M_traced M_beside x1 (x7 - x7 / 256 * 256) r17405 r17407 e17408) (cwV 3 hts gX7_jammed_X7_spread rfl rfl rfl (by decide +kernel) ⟨Nat.le_of_ble_eq_true rfl, Nat.le_of_ble_eq_true rfl⟩) hK hP hD hS hA [0, 1] [2, 3, 4] [3, 4, 0, 1, 2] 0 rfl rfl rfl rfl (by decide) rfl rfl rfl rfl rfl rfl hl.1 rfl (Nat.le_of_ble_eq_true rfl) dX7_jammed_219 ⟨Nat.zero_le _, Nat.zero_le _⟩ (fun H locs hP hD hS => ?_)
              refine lv_iadd hx hb dX7_jammed_222 ?_
              refine lv_iconst (v := 1) hx hb dX7_jammed_223 (by decide) ?_
              obtain ⟨g17409, eg17409, hn17410, h⟩ := sti_s h
              refine ka_zst (w1 := [(aM, .inr (7, [.int M_thrown, .int M_status, .ref aM_lane, .ref aM_many, .ref aM_item, .int M_posts, .ref aM_beside, .int M_rounds, .ref aM_round, .int M_read, .ref aM_reads, .ref aM_tape, .int M_taped, .int M_latest, .int M_length, .int M_at, .int M_sort, .int M_from, .int M_till, .int M_fault, .int M_faultAt, .ref aM_fewest, .ref aM_may, .ref aM_then, .ref aM_cases, .ref aM_next, .ref aM_trace, .int M_traced])), (aM_beside, .inl (cI, 8, .inl M_beside)), (aM_round, .inl (cI, 20, .inl M_round)), (aM_may, .inl (cZ, 1536, .inl M_may)), (aM_then, .inl (cZ, 1536, .inl g17409))]) hx hb hK hP hD hS 4 2 eg17409 rfl rfl hn17410 dX7_jammed_224 rfl (fun H locs hP hD hS => ?_)
              refine lv_iload hx hb dX7_jammed_225 (lv_at hl 5 rfl) ?_
              refine lv_sipush (v := 256) hx hb dX7_jammed_227 (by decide) ?_
              refine lv_idiv hx hb dX7_jammed_230 (by decide) ?_
              refine lv_iload_n hx hb dX7_jammed_231 rfl (lv_at hl 2 rfl) ?_
              refine lv_icmp_ge (tgt := 247) hx hb dX7_jammed_232 (by decide) (fun c17411 => ?_) (fun c17411 => ?_)
              · have h := ift c17411 h
                refine lv_iinc (v := x7 + 1) (lv' := [(7, .int (x7 + 1)), (0, .ref aM), (1, .int x1), (3, .int x3), (4, .int x4), (5, .int x5)]) hx hb dX7_jammed_247 hl (k := 5) rfl rfl (by decide) rfl (fun ls hl => ?_)
                refine lv_goto (tgt := 173) hx hb dX7_jammed_250 (by decide) ?_
                exact ih173 M_thrown M_may g17409 x1 x3 x4 x5 (x7 + 1) _ _ _ h hP hD hS (lv_sub hl [1, 2, 3, 4, 5, 0] rfl)
              · have h := ifn c17411 h
                refine lv_aload_n hx hb dX7_jammed_235 rfl (lv_at hl 0 rfl) ?_
                refine ka_get (v := .ref aM_then) (C := RX7) (T := TX7) (Nf := 28) (ref := "BeepNetModel") hx hb hts hiX7 hown hK hP 0 rfl rfl 23 (by decide) k_0 rfl rfl dX7_jammed_236 ?_
                refine lv_iload hx hb dX7_jammed_239 (lv_at hl 5 rfl) ?_
                refine lv_sipush (v := 256) hx hb dX7_jammed_241 (by decide) ?_
                refine lv_iadd hx hb dX7_jammed_244 ?_
                refine lv_iconst (v := 1) hx hb dX7_jammed_245 (by decide) ?_
                obtain ⟨g17412, eg17412, hn17413, h⟩ := sti_s h
                refine ka_zst (w1 := [(aM, .inr (7, [.int M_thrown, .int M_status, .ref aM_lane, .ref aM_many, .ref aM_item, .int M_posts, .ref aM_beside, .int M_rounds, .ref aM_round, .int M_read, .ref aM_reads, .ref aM_tape, .int M_taped, .int M_latest, .int M_length, .int M_at, .int M_sort, .int M_from, .int M_till, .int M_fault, .int M_faultAt, .ref aM_fewest, .ref aM_may, .ref aM_then, .ref aM_cases, .ref aM_next, .ref aM_trace, .int M_traced])), (aM_beside, .inl (cI, 8, .inl M_beside)), (aM_round, .inl (cI, 20, .inl M_round)), (aM_may, .inl (cZ, 1536, .inl M_may)), (aM_then, .inl (cZ, 1536, .inl g17412))]) hx hb hK hP hD hS 4 2 eg17412 rfl rfl hn17413 dX7_jammed_246 rfl (fun H locs hP hD hS => ?_)
                refine lv_iinc (v := x7 + 1) (lv' := [(7, .int (x7 + 1)), (0, .ref aM), (1, .int x1), (3, .int x3), (4, .int x4), (5, .int x5)]) hx hb dX7_jammed_247 hl (k := 5) rfl rfl (by decide) rfl (fun ls hl => ?_)
                refine lv_goto (tgt := 173) hx hb dX7_jammed_250 (by decide) ?_
                exact ih173 M_thrown M_may g17412 x1 x3 x4 x5 (x7 + 1) _ _ _ h hP hD hS (lv_sub hl [1, 2, 3, 4, 5, 0] rfl)
      have hC107 : ∀ (n : Nat) (M_thrown : Int32) (M_may : Nat → Int32) (M_then : Nat → Int32) (x1 : Int32) (x3 : Int32) (x4 : Int32) (x5 : Int32) (x6 : Int32) (x7 : Int32) (H : Heap) (locs : List Loc) (ls : Array Slot), fX7_jammed_c107 M_posts M_rounds M_beside M_round (fX7_jammed_c94 M_posts M_rounds M_beside M_round n94) n M_thrown M_may M_then x1 x3 x4 x5 x6 x7 = some (rr, M_thrown_z, M_may_z, M_then_z) → va_P (dC, dI) vwCl [(aM, .inr (7, [.int M_thrown, .int M_status, .ref aM_lane, .ref aM_many, .ref aM_item, .int M_posts, .ref aM_beside, .int M_rounds, .ref aM_round, .int M_read, .ref aM_reads, .ref aM_tape, .int M_taped, .int M_latest, .int M_length, .int M_at, .int M_sort, .int M_from, .int M_till, .int M_fault, .int M_faultAt, .ref aM_fewest, .ref aM_may, .ref aM_then, .ref aM_cases, .ref aM_next, .ref aM_trace, .int M_traced])), (aM_beside, .inl (cI, 8, .inl M_beside)), (aM_round, .inl (cI, 20, .inl M_round)), (aM_may, .inl (cZ, 1536, .inl M_may)), (aM_then, .inl (cZ, 1536, .inl M_then))] H → va_D A [(aM, .inr (7, [.int M_thrown, .int M_status, .ref aM_lane, .ref aM_many, .ref aM_item, .int M_posts, .ref aM_beside, .int M_rounds, .ref aM_round, .int M_read, .ref aM_reads, .ref aM_tape, .int M_taped, .int M_latest, .int M_length, .int M_at, .int M_sort, .int M_from, .int M_till, .int M_fault, .int M_faultAt, .ref aM_fewest, .ref aM_may, .ref aM_then, .ref aM_cases, .ref aM_next, .ref aM_trace, .int M_traced])), (aM_beside, .inl (cI, 8, .inl M_beside)), (aM_round, .inl (cI, 20, .inl M_round)), (aM_may, .inl (cZ, 1536, .inl M_may)), (aM_then, .inl (cZ, 1536, .inl M_then))] → va_S A s.heap H locs → lv_has ls 8 [(0, .ref aM), (1, .int x1), (3, .int x3), (4, .int x4), (5, .int x5), (6, .int x6), (7, .int x7)] → W p l e rmX7_jammed s m args below meth c H locs 0 0 Q (F0 m 107 ls []) := by
        intro n
        induction n with
        | zero => intro M_thrown M_may M_then x1 x3 x4 x5 x6 x7 H locs ls h; rw [fX7_jammed_c107] at h; cases h
        | succ n107 ih107 =>
          have hC146 : ∀ (M_thrown : Int32) (M_may : Nat → Int32) (M_then : Nat → Int32) (x1 : Int32) (x3 : Int32) (x4 : Int32) (x5 : Int32) (x7 : Int32) (t0 : Int32) (H : Heap) (locs : List Loc) (ls : Array Slot), fX7_jammed_c146 M_posts M_rounds M_beside M_round (fX7_jammed_c94 M_posts M_rounds M_beside M_round n94) (fX7_jammed_c107 M_posts M_rounds M_beside M_round (fX7_jammed_c94 M_posts M_rounds M_beside M_round n94) n107) M_thrown M_may M_then x1 x3 x4 x5 x7 t0 = some (rr, M_thrown_z, M_may_z, M_then_z) → va_P (dC, dI) vwCl [(aM, .inr (7, [.int M_thrown, .int M_status, .ref aM_lane, .ref aM_many, .ref aM_item, .int M_posts, .ref aM_beside, .int M_rounds, .ref aM_round, .int M_read, .ref aM_reads, .ref aM_tape, .int M_taped, .int M_latest, .int M_length, .int M_at, .int M_sort, .int M_from, .int M_till, .int M_fault, .int M_faultAt, .ref aM_fewest, .ref aM_may, .ref aM_then, .ref aM_cases, .ref aM_next, .ref aM_trace, .int M_traced])), (aM_beside, .inl (cI, 8, .inl M_beside)), (aM_round, .inl (cI, 20, .inl M_round)), (aM_may, .inl (cZ, 1536, .inl M_may)), (aM_then, .inl (cZ, 1536, .inl M_then))] H → va_D A [(aM, .inr (7, [.int M_thrown, .int M_status, .ref aM_lane, .ref aM_many, .ref aM_item, .int M_posts, .ref aM_beside, .int M_rounds, .ref aM_round, .int M_read, .ref aM_reads, .ref aM_tape, .int M_taped, .int M_latest, .int M_length, .int M_at, .int M_sort, .int M_from, .int M_till, .int M_fault, .int M_faultAt, .ref aM_fewest, .ref aM_may, .ref aM_then, .ref aM_cases, .ref aM_next, .ref aM_trace, .int M_traced])), (aM_beside, .inl (cI, 8, .inl M_beside)), (aM_round, .inl (cI, 20, .inl M_round)), (aM_may, .inl (cZ, 1536, .inl M_may)), (aM_then, .inl (cZ, 1536, .inl M_then))] → va_S A s.heap H locs → lv_has ls 8 [(0, .ref aM), (1, .int x1), (3, .int x3), (4, .int x4), (5, .int x5), (7, .int x7)] → W p l e rmX7_jammed s m args below meth c H locs 0 0 Q (F0 m 146 ls [.int t0]) := by
            intro M_thrown M_may M_then x1 x3 x4 x5 x7 t0 H locs ls h hP hD hS hl
            unfold fX7_jammed_c146 at h
            refine lv_istore (lv' := [(6, .int t0), (0, .ref aM), (1, .int x1), (3, .int x3), (4, .int x4), (5, .int x5), (7, .int x7)]) hx hb dX7_jammed_146 hl (by decide) rfl (fun ls hl => ?_)
            refine lv_aload_n hx hb dX7_jammed_148 rfl (lv_at hl 1 rfl) ?_
            refine ka_get (v := .ref aM_then) (C := RX7) (T := TX7) (Nf := 28) (ref := "BeepNetModel") hx hb hts hiX7 hown hK hP 0 rfl rfl 23 (by decide) k_0 rfl rfl dX7_jammed_149 ?_
            refine lv_iload hx hb dX7_jammed_152 (lv_at hl 6 rfl) ?_
            refine lv_iconst (v := 0) hx hb dX7_jammed_154 (by decide) ?_
            obtain ⟨g14701, eg14701, hn14702, h⟩ := sti_s h
            refine ka_zst (w1 := [(aM, .inr (7, [.int M_thrown, .int M_status, .ref aM_lane, .ref aM_many, .ref aM_item, .int M_posts, .ref aM_beside, .int M_rounds, .ref aM_round, .int M_read, .ref aM_reads, .ref aM_tape, .int M_taped, .int M_latest, .int M_length, .int M_at, .int M_sort, .int M_from, .int M_till, .int M_fault, .int M_faultAt, .ref aM_fewest, .ref aM_may, .ref aM_then, .ref aM_cases, .ref aM_next, .ref aM_trace, .int M_traced])), (aM_beside, .inl (cI, 8, .inl M_beside)), (aM_round, .inl (cI, 20, .inl M_round)), (aM_may, .inl (cZ, 1536, .inl M_may)), (aM_then, .inl (cZ, 1536, .inl g14701))]) hx hb hK hP hD hS 4 2 eg14701 rfl rfl hn14702 dX7_jammed_155 rfl (fun H locs hP hD hS => ?_)
            refine lv_iinc (v := x7 + 1) (lv' := [(7, .int (x7 + 1)), (6, .int t0), (0, .ref aM), (1, .int x1), (3, .int x3), (4, .int x4), (5, .int x5)]) hx hb dX7_jammed_156 hl (k := 6) rfl rfl (by decide) rfl (fun ls hl => ?_)
            refine lv_goto (tgt := 107) hx hb dX7_jammed_159 (by decide) ?_
            exact ih107 M_thrown M_may g14701 x1 x3 x4 x5 t0 (x7 + 1) _ _ _ h hP hD hS (lv_sub hl [2, 3, 4, 5, 6, 1, 0] rfl)
          have hC141 : ∀ (M_thrown : Int32) (M_may : Nat → Int32) (M_then : Nat → Int32) (x1 : Int32) (x3 : Int32) (x4 : Int32) (x5 : Int32) (x7 : Int32) (H : Heap) (locs : List Loc) (ls : Array Slot), fX7_jammed_c141 M_posts M_rounds M_beside M_round (fX7_jammed_c94 M_posts M_rounds M_beside M_round n94) (fX7_jammed_c107 M_posts M_rounds M_beside M_round (fX7_jammed_c94 M_posts M_rounds M_beside M_round n94) n107) M_thrown M_may M_then x1 x3 x4 x5 x7 = some (rr, M_thrown_z, M_may_z, M_then_z) → va_P (dC, dI) vwCl [(aM, .inr (7, [.int M_thrown, .int M_status, .ref aM_lane, .ref aM_many, .ref aM_item, .int M_posts, .ref aM_beside, .int M_rounds, .ref aM_round, .int M_read, .ref aM_reads, .ref aM_tape, .int M_taped, .int M_latest, .int M_length, .int M_at, .int M_sort, .int M_from, .int M_till, .int M_fault, .int M_faultAt, .ref aM_fewest, .ref aM_may, .ref aM_then, .ref aM_cases, .ref aM_next, .ref aM_trace, .int M_traced])), (aM_beside, .inl (cI, 8, .inl M_beside)), (aM_round, .inl (cI, 20, .inl M_round)), (aM_may, .inl (cZ, 1536, .inl M_may)), (aM_then, .inl (cZ, 1536, .inl M_then))] H → va_D A [(aM, .inr (7, [.int M_thrown, .int M_status, .ref aM_lane, .ref aM_many, .ref aM_item, .int M_posts, .ref aM_beside, .int M_rounds, .ref aM_round, .int M_read, .ref aM_reads, .ref aM_tape, .int M_taped, .int M_latest, .int M_length, .int M_at, .int M_sort, .int M_from, .int M_till, .int M_fault, .int M_faultAt, .ref aM_fewest, .ref aM_may, .ref aM_then, .ref aM_cases, .ref aM_next, .ref aM_trace, .int M_traced])), (aM_beside, .inl (cI, 8, .inl M_beside)), (aM_round, .inl (cI, 20, .inl M_round)), (aM_may, .inl (cZ, 1536, .inl M_may)), (aM_then, .inl (cZ, 1536, .inl M_then))] → va_S A s.heap H locs → lv_has ls 8 [(0, .ref aM), (1, .int x1), (3, .int x3), (4, .int x4), (5, .int x5), (7, .int x7)] → W p l e rmX7_jammed s m args below meth c H locs 0 0 Q (F0 m 141 ls []) := by
            intro M_thrown M_may M_then x1 x3 x4 x5 x7 H locs ls h hP hD hS hl
            unfold fX7_jammed_c141 at h
            refine lv_iconst (v := 1) hx hb dX7_jammed_141 (by decide) ?_
            refine lv_goto (tgt := 146) hx hb dX7_jammed_142 (by decide) ?_
            exact hC146 M_thrown M_may M_then x1 x3 x4 x5 x7 1 _ _ _ h hP hD hS (lv_sub hl [0, 1, 2, 3, 4, 5] rfl)
          have hC145 : ∀ (M_thrown : Int32) (M_may : Nat → Int32) (M_then : Nat → Int32) (x1 : Int32) (x3 : Int32) (x4 : Int32) (x5 : Int32) (x7 : Int32) (H : Heap) (locs : List Loc) (ls : Array Slot), fX7_jammed_c145 M_posts M_rounds M_beside M_round (fX7_jammed_c94 M_posts M_rounds M_beside M_round n94) (fX7_jammed_c107 M_posts M_rounds M_beside M_round (fX7_jammed_c94 M_posts M_rounds M_beside M_round n94) n107) M_thrown M_may M_then x1 x3 x4 x5 x7 = some (rr, M_thrown_z, M_may_z, M_then_z) → va_P (dC, dI) vwCl [(aM, .inr (7, [.int M_thrown, .int M_status, .ref aM_lane, .ref aM_many, .ref aM_item, .int M_posts, .ref aM_beside, .int M_rounds, .ref aM_round, .int M_read, .ref aM_reads, .ref aM_tape, .int M_taped, .int M_latest, .int M_length, .int M_at, .int M_sort, .int M_from, .int M_till, .int M_fault, .int M_faultAt, .ref aM_fewest, .ref aM_may, .ref aM_then, .ref aM_cases, .ref aM_next, .ref aM_trace, .int M_traced])), (aM_beside, .inl (cI, 8, .inl M_beside)), (aM_round, .inl (cI, 20, .inl M_round)), (aM_may, .inl (cZ, 1536, .inl M_may)), (aM_then, .inl (cZ, 1536, .inl M_then))] H → va_D A [(aM, .inr (7, [.int M_thrown, .int M_status, .ref aM_lane, .ref aM_many, .ref aM_item, .int M_posts, .ref aM_beside, .int M_rounds, .ref aM_round, .int M_read, .ref aM_reads, .ref aM_tape, .int M_taped, .int M_latest, .int M_length, .int M_at, .int M_sort, .int M_from, .int M_till, .int M_fault, .int M_faultAt, .ref aM_fewest, .ref aM_may, .ref aM_then, .ref aM_cases, .ref aM_next, .ref aM_trace, .int M_traced])), (aM_beside, .inl (cI, 8, .inl M_beside)), (aM_round, .inl (cI, 20, .inl M_round)), (aM_may, .inl (cZ, 1536, .inl M_may)), (aM_then, .inl (cZ, 1536, .inl M_then))] → va_S A s.heap H locs → lv_has ls 8 [(0, .ref aM), (1, .int x1), (3, .int x3), (4, .int x4), (5, .int x5), (7, .int x7)] → W p l e rmX7_jammed s m args below meth c H locs 0 0 Q (F0 m 145 ls []) := by
            intro M_thrown M_may M_then x1 x3 x4 x5 x7 H locs ls h hP hD hS hl
            unfold fX7_jammed_c145 at h
            refine lv_iconst (v := 0) hx hb dX7_jammed_145 (by decide) ?_
            exact hC146 M_thrown M_may M_then x1 x3 x4 x5 x7 0 _ _ _ h hP hD hS (lv_sub hl [0, 1, 2, 3, 4, 5] rfl)
          intro M_thrown M_may M_then x1 x3 x4 x5 x6 x7 H locs ls h hP hD hS hl
          rw [fX7_jammed_c107] at h
          refine lv_iload hx hb dX7_jammed_107 (lv_at hl 6 rfl) ?_
          refine lv_sipush (v := 1536) hx hb dX7_jammed_109 (by decide) ?_
          refine lv_icmp_ge (tgt := 162) hx hb dX7_jammed_112 (by decide) (fun c10801 => ?_) (fun c10801 => ?_)
          · have h := ift c10801 h
            refine lv_iload hx hb dX7_jammed_162 (lv_at hl 5 rfl) ?_
            refine lv_if_eq (tgt := 170) hx hb dX7_jammed_164 (by decide) (fun c10802 => ?_) (fun c10802 => ?_)
            · have h := ift c10802 h
              refine lv_iconst (v := 0) hx hb dX7_jammed_170 (by decide) ?_
              refine lv_istore (lv' := [(7, .int 0), (0, .ref aM), (1, .int x1), (3, .int x3), (4, .int x4), (5, .int x5), (6, .int x6)]) hx hb dX7_jammed_171 hl (by decide) rfl (fun ls hl => ?_)
              exact hC173 FU M_thrown M_may M_then x1 x3 x4 x5 0 _ _ _ h hP hD hS (lv_sub hl [1, 2, 3, 4, 5, 0] rfl)
            · have h := ifn c10802 h
              refine lv_iload hx hb dX7_jammed_167 (lv_at hl 4 rfl) ?_
              obtain ⟨rfl, rfl, rfl, rfl⟩ := sj4 h
              exact hret _ _ _ _ _ rfl rfl hP hD hS dX7_jammed_169
          · have h := ifn c10801 h
            refine lv_iload hx hb dX7_jammed_115 (lv_at hl 5 rfl) ?_
            refine lv_if_eq (tgt := 145) hx hb dX7_jammed_117 (by decide) (fun c10803 => ?_) (fun c10803 => ?_)
            · have h := ift c10803 h
              exact hC145 M_thrown M_may M_then x1 x3 x4 x5 x7 _ _ _ h hP hD hS (lv_sub hl [0, 1, 2, 3, 4, 6] rfl)
            · have h := ifn c10803 h
              refine lv_aload_n hx hb dX7_jammed_120 rfl (lv_at hl 0 rfl) ?_
              refine ka_get (v := .ref aM_may) (C := RX7) (T := TX7) (Nf := 28) (ref := "BeepNetModel") hx hb hts hiX7 hown hK hP 0 rfl rfl 22 (by decide) k_1 rfl rfl dX7_jammed_121 ?_
              refine lv_iload hx hb dX7_jammed_124 (lv_at hl 6 rfl) ?_
              obtain ⟨v10804, ev10804, hn10805, h⟩ := ldx_s h
              refine ka_zld hx hb hK hP 3 2 ev10804 rfl rfl hn10805 dX7_jammed_126 ?_
              refine lv_if_eq (tgt := 141) hx hb dX7_jammed_127 (by decide) (fun c10806 => ?_) (fun c10806 => ?_)
              · have h := ift c10806 h
                exact hC141 M_thrown M_may M_then x1 x3 x4 x5 x7 _ _ _ h hP hD hS (lv_sub hl [0, 1, 2, 3, 4, 6] rfl)
              · have h := ifn c10806 h
                refine lv_iload hx hb dX7_jammed_130 (lv_at hl 6 rfl) ?_
                refine lv_sipush (v := 256) hx hb dX7_jammed_132 (by decide) ?_
                refine lv_irem hx hb dX7_jammed_135 (by decide) ?_
                refine lv_iload hx hb dX7_jammed_136 (lv_at hl 3 rfl) ?_
                refine lv_icmp_ne (tgt := 145) hx hb dX7_jammed_138 (by decide) (fun c10807 => ?_) (fun c10807 => ?_)
                · have h := ifn c10807 h
                  exact hC145 M_thrown M_may M_then x1 x3 x4 x5 x7 _ _ _ h hP hD hS (lv_sub hl [0, 1, 2, 3, 4, 6] rfl)
                · have h := ift c10807 h
                  exact hC141 M_thrown M_may M_then x1 x3 x4 x5 x7 _ _ _ h hP hD hS (lv_sub hl [0, 1, 2, 3, 4, 6] rfl)
      intro M_thrown M_may M_then x1 x3 x4 x5 H locs ls h hP hD hS hl
      rw [fX7_jammed_c94] at h
      refine lv_iload hx hb dX7_jammed_94 (lv_at hl 4 rfl) ?_
      refine lv_bipush (v := 60) hx hb dX7_jammed_96 (by decide) ?_
      refine lv_icmp_gt (tgt := 290) hx hb dX7_jammed_98 (by decide) (fun c9501 => ?_) (fun c9501 => ?_)
      · have h := ift c9501 h
        refine lv_ldc hx hb hown k_2 dX7_jammed_290 ?_
        obtain ⟨rfl, rfl, rfl, rfl⟩ := sj4 h
        exact hret _ _ _ _ _ rfl rfl hP hD hS dX7_jammed_292
      · have h := ifn c9501 h
        refine lv_iconst (v := 1) hx hb dX7_jammed_101 (by decide) ?_
        refine lv_istore (lv' := [(6, .int 1), (0, .ref aM), (1, .int x1), (3, .int x3), (4, .int x4), (5, .int x5)]) hx hb dX7_jammed_102 hl (by decide) rfl (fun ls hl => ?_)
        refine lv_iconst (v := 0) hx hb dX7_jammed_104 (by decide) ?_
        refine lv_istore (lv' := [(7, .int 0), (6, .int 1), (0, .ref aM), (1, .int x1), (3, .int x3), (4, .int x4), (5, .int x5)]) hx hb dX7_jammed_105 hl (by decide) rfl (fun ls hl => ?_)
        exact hC107 FU M_thrown M_may M_then x1 x3 x4 x5 1 0 _ _ _ h hP hD hS (lv_sub hl [2, 3, 4, 5, 6, 1, 0] rfl)
  have hC57 : ∀ (n : Nat) (M_thrown : Int32) (M_may : Nat → Int32) (M_then : Nat → Int32) (x1 : Int32) (x2 : Int32) (x3 : Int32) (x4 : Int32) (x5 : Int32) (H : Heap) (locs : List Loc) (ls : Array Slot), fX7_jammed_c57 M_posts M_rounds M_beside M_round n M_thrown M_may M_then x1 x2 x3 x4 x5 = some (rr, M_thrown_z, M_may_z, M_then_z) → va_P (dC, dI) vwCl [(aM, .inr (7, [.int M_thrown, .int M_status, .ref aM_lane, .ref aM_many, .ref aM_item, .int M_posts, .ref aM_beside, .int M_rounds, .ref aM_round, .int M_read, .ref aM_reads, .ref aM_tape, .int M_taped, .int M_latest, .int M_length, .int M_at, .int M_sort, .int M_from, .int M_till, .int M_fault, .int M_faultAt, .ref aM_fewest, .ref aM_may, .ref aM_then, .ref aM_cases, .ref aM_next, .ref aM_trace, .int M_traced])), (aM_beside, .inl (cI, 8, .inl M_beside)), (aM_round, .inl (cI, 20, .inl M_round)), (aM_may, .inl (cZ, 1536, .inl M_may)), (aM_then, .inl (cZ, 1536, .inl M_then))] H → va_D A [(aM, .inr (7, [.int M_thrown, .int M_status, .ref aM_lane, .ref aM_many, .ref aM_item, .int M_posts, .ref aM_beside, .int M_rounds, .ref aM_round, .int M_read, .ref aM_reads, .ref aM_tape, .int M_taped, .int M_latest, .int M_length, .int M_at, .int M_sort, .int M_from, .int M_till, .int M_fault, .int M_faultAt, .ref aM_fewest, .ref aM_may, .ref aM_then, .ref aM_cases, .ref aM_next, .ref aM_trace, .int M_traced])), (aM_beside, .inl (cI, 8, .inl M_beside)), (aM_round, .inl (cI, 20, .inl M_round)), (aM_may, .inl (cZ, 1536, .inl M_may)), (aM_then, .inl (cZ, 1536, .inl M_then))] → va_S A s.heap H locs → lv_has ls 8 [(0, .ref aM), (1, .int x1), (2, .int x2), (3, .int x3), (4, .int x4), (5, .int x5)] → W p l e rmX7_jammed s m args below meth c H locs 0 0 Q (F0 m 57 ls []) := by
    intro n
    induction n with
    | zero => intro M_thrown M_may M_then x1 x2 x3 x4 x5 H locs ls h; rw [fX7_jammed_c57] at h; cases h
    | succ n57 ih57 =>
      intro M_thrown M_may M_then x1 x2 x3 x4 x5 H locs ls h hP hD hS hl
      rw [fX7_jammed_c57] at h
      refine lv_iload hx hb dX7_jammed_57 (lv_at hl 5 rfl) ?_
      refine lv_sipush (v := 1536) hx hb dX7_jammed_59 (by decide) ?_
      refine lv_icmp_ge (tgt := 91) hx hb dX7_jammed_62 (by decide) (fun c5801 => ?_) (fun c5801 => ?_)
      · have h := ift c5801 h
        refine lv_iconst (v := 0) hx hb dX7_jammed_91 (by decide) ?_
        refine lv_istore (lv' := [(5, .int 0), (0, .ref aM), (1, .int x1), (2, .int x2), (3, .int x3), (4, .int x4)]) hx hb dX7_jammed_92 hl (by decide) rfl (fun ls hl => ?_)
        exact hC94 FU M_thrown M_may M_then x1 x3 x4 0 _ _ _ h hP hD hS (lv_sub hl [1, 2, 4, 5, 0] rfl)
      · have h := ifn c5801 h
        refine lv_aload_n hx hb dX7_jammed_65 rfl (lv_at hl 0 rfl) ?_
        refine ka_get (v := .ref aM_may) (C := RX7) (T := TX7) (Nf := 28) (ref := "BeepNetModel") hx hb hts hiX7 hown hK hP 0 rfl rfl 22 (by decide) k_1 rfl rfl dX7_jammed_66 ?_
        refine lv_iload hx hb dX7_jammed_69 (lv_at hl 5 rfl) ?_
        refine lv_iload hx hb dX7_jammed_71 (lv_at hl 5 rfl) ?_
        refine lv_iconst (v := 1) hx hb dX7_jammed_73 (by decide) ?_
        refine lv_iload_n hx hb dX7_jammed_74 rfl (lv_at hl 2 rfl) ?_
        refine lv_ishl hx hb dX7_jammed_75 ?_
        refine lv_icmp_ne (tgt := 83) hx hb dX7_jammed_76 (by decide) (fun c5802 => ?_) (fun c5802 => ?_)
        · have h := ifn c5802 h
          refine lv_iconst (v := 0) hx hb dX7_jammed_83 (by decide) ?_
          obtain ⟨g5803, eg5803, hn5804, h⟩ := sti_s h
          refine ka_zst (w1 := [(aM, .inr (7, [.int M_thrown, .int M_status, .ref aM_lane, .ref aM_many, .ref aM_item, .int M_posts, .ref aM_beside, .int M_rounds, .ref aM_round, .int M_read, .ref aM_reads, .ref aM_tape, .int M_taped, .int M_latest, .int M_length, .int M_at, .int M_sort, .int M_from, .int M_till, .int M_fault, .int M_faultAt, .ref aM_fewest, .ref aM_may, .ref aM_then, .ref aM_cases, .ref aM_next, .ref aM_trace, .int M_traced])), (aM_beside, .inl (cI, 8, .inl M_beside)), (aM_round, .inl (cI, 20, .inl M_round)), (aM_may, .inl (cZ, 1536, .inl g5803)), (aM_then, .inl (cZ, 1536, .inl M_then))]) hx hb hK hP hD hS 3 2 eg5803 rfl rfl hn5804 dX7_jammed_84 rfl (fun H locs hP hD hS => ?_)
          refine lv_iinc (v := x5 + 1) (lv' := [(5, .int (x5 + 1)), (0, .ref aM), (1, .int x1), (2, .int x2), (3, .int x3), (4, .int x4)]) hx hb dX7_jammed_85 hl (k := 5) rfl rfl (by decide) rfl (fun ls hl => ?_)
          refine lv_goto (tgt := 57) hx hb dX7_jammed_88 (by decide) ?_
          exact ih57 M_thrown g5803 M_then x1 x2 x3 x4 (x5 + 1) _ _ _ h hP hD hS (lv_sub hl [1, 2, 3, 4, 5, 0] rfl)
        · have h := ift c5802 h
          refine lv_iconst (v := 1) hx hb dX7_jammed_79 (by decide) ?_
          refine lv_goto (tgt := 84) hx hb dX7_jammed_80 (by decide) ?_
          obtain ⟨g5805, eg5805, hn5806, h⟩ := sti_s h
          refine ka_zst (w1 := [(aM, .inr (7, [.int M_thrown, .int M_status, .ref aM_lane, .ref aM_many, .ref aM_item, .int M_posts, .ref aM_beside, .int M_rounds, .ref aM_round, .int M_read, .ref aM_reads, .ref aM_tape, .int M_taped, .int M_latest, .int M_length, .int M_at, .int M_sort, .int M_from, .int M_till, .int M_fault, .int M_faultAt, .ref aM_fewest, .ref aM_may, .ref aM_then, .ref aM_cases, .ref aM_next, .ref aM_trace, .int M_traced])), (aM_beside, .inl (cI, 8, .inl M_beside)), (aM_round, .inl (cI, 20, .inl M_round)), (aM_may, .inl (cZ, 1536, .inl g5805)), (aM_then, .inl (cZ, 1536, .inl M_then))]) hx hb hK hP hD hS 3 2 eg5805 rfl rfl hn5806 dX7_jammed_84 rfl (fun H locs hP hD hS => ?_)
          refine lv_iinc (v := x5 + 1) (lv' := [(5, .int (x5 + 1)), (0, .ref aM), (1, .int x1), (2, .int x2), (3, .int x3), (4, .int x4)]) hx hb dX7_jammed_85 hl (k := 5) rfl rfl (by decide) rfl (fun ls hl => ?_)
          refine lv_goto (tgt := 57) hx hb dX7_jammed_88 (by decide) ?_
          exact ih57 M_thrown g5805 M_then x1 x2 x3 x4 (x5 + 1) _ _ _ h hP hD hS (lv_sub hl [1, 2, 3, 4, 5, 0] rfl)
  unfold fX7_jammed at h
  refine lv_aload_n hx hb dX7_jammed_0 rfl (lv_at hl 0 rfl) ?_
  refine lv_iconst (v := 0) hx hb dX7_jammed_1 (by decide) ?_
  refine ka_put (w1 := [(aM, .inr (7, [.int 0, .int M_status, .ref aM_lane, .ref aM_many, .ref aM_item, .int M_posts, .ref aM_beside, .int M_rounds, .ref aM_round, .int M_read, .ref aM_reads, .ref aM_tape, .int M_taped, .int M_latest, .int M_length, .int M_at, .int M_sort, .int M_from, .int M_till, .int M_fault, .int M_faultAt, .ref aM_fewest, .ref aM_may, .ref aM_then, .ref aM_cases, .ref aM_next, .ref aM_trace, .int M_traced])), (aM_beside, .inl (cI, 8, .inl M_beside)), (aM_round, .inl (cI, 20, .inl M_round)), (aM_may, .inl (cZ, 1536, .inl M_may)), (aM_then, .inl (cZ, 1536, .inl M_then))]) (C := RX7) (T := TX7) (Nf := 28) (ref := "BeepNetModel") hx hb hts hiX7 tyX7 tyX7_ok nmX7 hown hK hP hD hS 0 rfl rfl 0 (by decide) k_3 rfl rfl rfl (Nat.le_of_ble_eq_true rfl) dX7_jammed_2 rfl (fun H locs hP hD hS => ?_)
  refine lv_iload_n hx hb dX7_jammed_5 rfl (lv_at hl 1 rfl) ?_
  obtain ⟨r1, e2, h⟩ := bd1_s h
  refine kc_si (rest := []) (wr := [(aM, .inr (7, [.int 0, .int M_status, .ref aM_lane, .ref aM_many, .ref aM_item, .int M_posts, .ref aM_beside, .int M_rounds, .ref aM_round, .int M_read, .ref aM_reads, .ref aM_tape, .int M_taped, .int M_latest, .int M_length, .int M_at, .int M_sort, .int M_from, .int M_till, .int M_fault, .int M_faultAt, .ref aM_fewest, .ref aM_may, .ref aM_then, .ref aM_cases, .ref aM_next, .ref aM_trace, .int M_traced])), (aM_beside, .inl (cI, 8, .inl M_beside)), (aM_round, .inl (cI, 20, .inl M_round)), (aM_may, .inl (cZ, 1536, .inl M_may)), (aM_then, .inl (cZ, 1536, .inl M_then))]) (wF := [(aM, .inr (7, [.int 0, .int M_status, .ref aM_lane, .ref aM_many, .ref aM_item, .int M_posts, .ref aM_beside, .int M_rounds, .ref aM_round, .int M_read, .ref aM_reads, .ref aM_tape, .int M_taped, .int M_latest, .int M_length, .int M_at, .int M_sort, .int M_from, .int M_till, .int M_fault, .int M_faultAt, .ref aM_fewest, .ref aM_may, .ref aM_then, .ref aM_cases, .ref aM_next, .ref aM_trace, .int M_traced])), (aM_beside, .inl (cI, 8, .inl M_beside)), (aM_round, .inl (cI, 20, .inl M_round)), (aM_may, .inl (cZ, 1536, .inl M_may)), (aM_then, .inl (cZ, 1536, .inl M_then))]) ⟨hx, hb, hml, hown, hts⟩ (c_X7_isHearing l dC dI cI cJ cZ cA p0 r1 e2) (va_cwS 1 hts gX7_jammed_X7_isHearing rfl rfl rfl (by decide +kernel) ⟨Nat.le_of_ble_eq_true rfl, Nat.le_of_ble_eq_true rfl⟩) hK hP hD hS hA [] [0, 1, 2, 3, 4] [0, 1, 2, 3, 4] rfl rfl rfl rfl (by decide) rfl rfl rfl hl.1 rfl (Nat.le_of_ble_eq_true rfl) dX7_jammed_6 ⟨Nat.zero_le _, Nat.zero_le _⟩ (fun H locs hP hD hS => ?_)
  refine lv_if_eq (tgt := 32) hx hb dX7_jammed_9 (by decide) (fun c3 => ?_) (fun c3 => ?_)
  · have h := ift c3 h
    refine lv_ldc hx hb hown k_4 dX7_jammed_32 ?_
    obtain ⟨rfl, rfl, rfl, rfl⟩ := sj4 h
    exact hret _ _ _ _ _ rfl rfl hP hD hS dX7_jammed_34
  · have h := ifn c3 h
    refine lv_aload_n hx hb dX7_jammed_12 rfl (lv_at hl 0 rfl) ?_
    refine lv_iload_n hx hb dX7_jammed_13 rfl (lv_at hl 2 rfl) ?_
    obtain ⟨r4, e5, h⟩ := bd1_s h
    refine kc_vi (rest := []) (wr := [(aM_beside, .inl (cI, 8, .inl M_beside)), (aM_round, .inl (cI, 20, .inl M_round)), (aM_may, .inl (cZ, 1536, .inl M_may)), (aM_then, .inl (cZ, 1536, .inl M_then))]) (wF := [(aM, .inr (7, [.int 0, .int M_status, .ref aM_lane, .ref aM_many, .ref aM_item, .int M_posts, .ref aM_beside, .int M_rounds, .ref aM_round, .int M_read, .ref aM_reads, .ref aM_tape, .int M_taped, .int M_latest, .int M_length, .int M_at, .int M_sort, .int M_from, .int M_till, .int M_fault, .int M_faultAt, .ref aM_fewest, .ref aM_may, .ref aM_then, .ref aM_cases, .ref aM_next, .ref aM_trace, .int M_traced])), (aM_beside, .inl (cI, 8, .inl M_beside)), (aM_round, .inl (cI, 20, .inl M_round)), (aM_may, .inl (cZ, 1536, .inl M_may)), (aM_then, .inl (cZ, 1536, .inl M_then))]) ⟨hx, hb, hml, hown, hts⟩ (c_X7_isPost l dC dI cI cJ cZ cA aM aM_lane aM_many aM_item aM_beside aM_round aM_reads aM_tape aM_fewest aM_may aM_then aM_cases aM_next aM_trace 0 M_status M_posts M_rounds M_read M_taped M_latest M_length M_at M_sort M_from M_till M_fault M_faultAt M_traced p1 r4 e5) (cwV 1 hts gX7_jammed_X7_isPost rfl rfl rfl (by decide +kernel) ⟨Nat.le_of_ble_eq_true rfl, Nat.le_of_ble_eq_true rfl⟩) hK hP hD hS hA [0] [1, 2, 3, 4] [4, 0, 1, 2, 3] 0 rfl rfl rfl rfl (by decide) rfl rfl rfl rfl rfl rfl hl.1 rfl (Nat.le_of_ble_eq_true rfl) dX7_jammed_14 ⟨Nat.zero_le _, Nat.zero_le _⟩ (fun H locs hP hD hS => ?_)
    refine lv_if_eq (tgt := 32) hx hb dX7_jammed_17 (by decide) (fun c6 => ?_) (fun c6 => ?_)
    · have h := ift c6 h
      refine lv_ldc hx hb hown k_4 dX7_jammed_32 ?_
      obtain ⟨rfl, rfl, rfl, rfl⟩ := sj4 h
      exact hret _ _ _ _ _ rfl rfl hP hD hS dX7_jammed_34
    · have h := ifn c6 h
      refine lv_iload_n hx hb dX7_jammed_20 rfl (lv_at hl 3 rfl) ?_
      refine lv_i2l hx hb dX7_jammed_21 rfl ?_
      refine lv_lconst (v := 0) hx hb dX7_jammed_22 (by decide) ?_
      refine lv_ldc2 hx hb hown k_5 dX7_jammed_23 ?_
      obtain ⟨r7, e8, h⟩ := bd1_s h
      refine kc_si (rest := []) (wr := [(aM, .inr (7, [.int 0, .int M_status, .ref aM_lane, .ref aM_many, .ref aM_item, .int M_posts, .ref aM_beside, .int M_rounds, .ref aM_round, .int M_read, .ref aM_reads, .ref aM_tape, .int M_taped, .int M_latest, .int M_length, .int M_at, .int M_sort, .int M_from, .int M_till, .int M_fault, .int M_faultAt, .ref aM_fewest, .ref aM_may, .ref aM_then, .ref aM_cases, .ref aM_next, .ref aM_trace, .int M_traced])), (aM_beside, .inl (cI, 8, .inl M_beside)), (aM_round, .inl (cI, 20, .inl M_round)), (aM_may, .inl (cZ, 1536, .inl M_may)), (aM_then, .inl (cZ, 1536, .inl M_then))]) (wF := [(aM, .inr (7, [.int 0, .int M_status, .ref aM_lane, .ref aM_many, .ref aM_item, .int M_posts, .ref aM_beside, .int M_rounds, .ref aM_round, .int M_read, .ref aM_reads, .ref aM_tape, .int M_taped, .int M_latest, .int M_length, .int M_at, .int M_sort, .int M_from, .int M_till, .int M_fault, .int M_faultAt, .ref aM_fewest, .ref aM_may, .ref aM_then, .ref aM_cases, .ref aM_next, .ref aM_trace, .int M_traced])), (aM_beside, .inl (cI, 8, .inl M_beside)), (aM_round, .inl (cI, 20, .inl M_round)), (aM_may, .inl (cZ, 1536, .inl M_may)), (aM_then, .inl (cZ, 1536, .inl M_then))]) ⟨hx, hb, hml, hown, hts⟩ (c_X7_in l dC dI cI cJ cZ cA p2.toInt64 0 5 r7 e8) (va_cwS 3 hts gX7_jammed_X7_in rfl rfl rfl (by decide +kernel) ⟨Nat.le_of_ble_eq_true rfl, Nat.le_of_ble_eq_true rfl⟩) hK hP hD hS hA [] [0, 1, 2, 3, 4] [0, 1, 2, 3, 4] rfl rfl rfl rfl (by decide) rfl rfl rfl hl.1 rfl (Nat.le_of_ble_eq_true rfl) dX7_jammed_26 ⟨Nat.zero_le _, Nat.zero_le _⟩ (fun H locs hP hD hS => ?_)
      refine lv_if_ne (tgt := 35) hx hb dX7_jammed_29 (by decide) (fun c9 => ?_) (fun c9 => ?_)
      · have h := ifn c9 h
        refine lv_aload_n hx hb dX7_jammed_35 rfl (lv_at hl 0 rfl) ?_
        refine ka_get (v := .int M_rounds) (C := RX7) (T := TX7) (Nf := 28) (ref := "BeepNetModel") hx hb hts hiX7 hown hK hP 0 rfl rfl 7 (by decide) k_6 rfl rfl dX7_jammed_36 ?_
        refine lv_if_ne (tgt := 45) hx hb dX7_jammed_39 (by decide) (fun c10 => ?_) (fun c10 => ?_)
        · have h := ifn c10 h
          refine lv_aload_n hx hb dX7_jammed_45 rfl (lv_at hl 0 rfl) ?_
          refine lv_iconst (v := 1) hx hb dX7_jammed_46 (by decide) ?_
          refine lv_iload_n hx hb dX7_jammed_47 rfl (lv_at hl 2 rfl) ?_
          refine lv_ishl hx hb dX7_jammed_48 ?_
          obtain ⟨r11, e12, h⟩ := bd1_s h
          refine kc_vi (rest := []) (wr := [(aM_round, .inl (cI, 20, .inl M_round)), (aM_may, .inl (cZ, 1536, .inl M_may)), (aM_then, .inl (cZ, 1536, .inl M_then))]) (wF := [(aM, .inr (7, [.int 0, .int M_status, .ref aM_lane, .ref aM_many, .ref aM_item, .int M_posts, .ref aM_beside, .int M_rounds, .ref aM_round, .int M_read, .ref aM_reads, .ref aM_tape, .int M_taped, .int M_latest, .int M_length, .int M_at, .int M_sort, .int M_from, .int M_till, .int M_fault, .int M_faultAt, .ref aM_fewest, .ref aM_may, .ref aM_then, .ref aM_cases, .ref aM_next, .ref aM_trace, .int M_traced])), (aM_beside, .inl (cI, 8, .inl M_beside)), (aM_round, .inl (cI, 20, .inl M_round)), (aM_may, .inl (cZ, 1536, .inl M_may)), (aM_then, .inl (cZ, 1536, .inl M_then))]) ⟨hx, hb, hml, hown, hts⟩ (c_X7_reach l dC dI cI cJ cZ cA aM aM_lane aM_many aM_item aM_beside aM_round aM_reads aM_tape aM_fewest aM_may aM_then aM_cases aM_next aM_trace 0 M_status M_posts M_rounds M_read M_taped M_latest M_length M_at M_sort M_from M_till M_fault M_faultAt M_traced M_beside ((1 : Int32) <<< (p1 &&& 31)) r11 e12) (cwV 1 hts gX7_jammed_X7_reach rfl rfl rfl (by decide +kernel) ⟨Nat.le_of_ble_eq_true rfl, Nat.le_of_ble_eq_true rfl⟩) hK hP hD hS hA [0, 1] [2, 3, 4] [3, 4, 0, 1, 2] 0 rfl rfl rfl rfl (by decide) rfl rfl rfl rfl rfl rfl hl.1 rfl (Nat.le_of_ble_eq_true rfl) dX7_jammed_49 ⟨Nat.zero_le _, Nat.zero_le _⟩ (fun H locs hP hD hS => ?_)
          refine lv_istore (lv' := [(4, .int r11), (0, .ref aM), (1, .int p0), (2, .int p1), (3, .int p2)]) hx hb dX7_jammed_52 hl (by decide) rfl (fun ls hl => ?_)
          refine lv_iconst (v := 0) hx hb dX7_jammed_54 (by decide) ?_
          refine lv_istore (lv' := [(5, .int 0), (4, .int r11), (0, .ref aM), (1, .int p0), (2, .int p1), (3, .int p2)]) hx hb dX7_jammed_55 hl (by decide) rfl (fun ls hl => ?_)
          exact hC57 FU 0 M_may M_then p0 p1 p2 r11 0 _ _ _ h hP hD hS (lv_sub hl [2, 3, 4, 5, 1, 0] rfl)
        · have h := ift c10 h
          refine lv_ldc hx hb hown k_7 dX7_jammed_42 ?_
          obtain ⟨rfl, rfl, rfl, rfl⟩ := sj4 h
          exact hret _ _ _ _ _ rfl rfl hP hD hS dX7_jammed_44
      · have h := ift c9 h
        refine lv_ldc hx hb hown k_4 dX7_jammed_32 ?_
        obtain ⟨rfl, rfl, rfl, rfl⟩ := sj4 h
        exact hret _ _ _ _ _ rfl rfl hP hD hS dX7_jammed_34
set_option maxHeartbeats 4000000 in
set_option maxRecDepth 100000 in
theorem c_X7_draws (l : Launch) (dC : Nat → ClassId) (dI : Nat → Nat → Nat) (cI cJ cZ cA : ClassId) (aM aM_lane aM_many aM_item aM_beside aM_round aM_reads aM_tape aM_fewest aM_may aM_then aM_cases aM_next aM_trace : Nat) (M_thrown : Int32) (M_status : Int32) (M_posts : Int32) (M_rounds : Int32) (M_read : Int32) (M_taped : Int32) (M_latest : Int32) (M_length : Int32) (M_at : Int32) (M_sort : Int32) (M_from : Int32) (M_till : Int32) (M_fault : Int32) (M_faultAt : Int32) (M_traced : Int32) (M_beside : Nat → Int32) (M_cases : Nat → Int64) (M_next : Nat → Int64) (p0 : Int32) (p1 : Int32) (p2 : Int32) (rr : Int64) (M_thrown_z : Int32) (M_cases_z : Nat → Int64) (M_next_z : Nat → Int64) (h : fX7_draws M_thrown M_posts M_beside M_cases M_next p0 p1 p2 = some (rr, M_thrown_z, M_cases_z, M_next_z)) : Ctl l yX7_draws wsX7_draws rmX7_draws (dC, dI) (tyL cI cJ cZ cA) [(aM, .inr (7, [.int M_thrown, .int M_status, .ref aM_lane, .ref aM_many, .ref aM_item, .int M_posts, .ref aM_beside, .int M_rounds, .ref aM_round, .int M_read, .ref aM_reads, .ref aM_tape, .int M_taped, .int M_latest, .int M_length, .int M_at, .int M_sort, .int M_from, .int M_till, .int M_fault, .int M_faultAt, .ref aM_fewest, .ref aM_may, .ref aM_then, .ref aM_cases, .ref aM_next, .ref aM_trace, .int M_traced])), (aM_beside, .inl (cI, 8, .inl M_beside)), (aM_cases, .inl (cJ, 256, .inr (.inl M_cases))), (aM_next, .inl (cJ, 256, .inr (.inl M_next)))] [(aM, .inr (7, [.int M_thrown_z, .int M_status, .ref aM_lane, .ref aM_many, .ref aM_item, .int M_posts, .ref aM_beside, .int M_rounds, .ref aM_round, .int M_read, .ref aM_reads, .ref aM_tape, .int M_taped, .int M_latest, .int M_length, .int M_at, .int M_sort, .int M_from, .int M_till, .int M_fault, .int M_faultAt, .ref aM_fewest, .ref aM_may, .ref aM_then, .ref aM_cases, .ref aM_next, .ref aM_trace, .int M_traced])), (aM_beside, .inl (cI, 8, .inl M_beside)), (aM_cases, .inl (cJ, 256, .inr (.inl M_cases_z))), (aM_next, .inl (cJ, 256, .inr (.inl M_next_z)))] [.ref aM, .int p0, .int p1, .int p2] rr := by
  refine ct_long (cc := cX7_draws) (maxL := 7) (by decide) rfl (Nat.le_of_ble_eq_true rfl) ?_
  intro p e s m args below meth c A Q ls hx hb hml hown hts hA hK hP hD hS hl hret
  have hl : lv_has ls 7 [(0, .ref aM), (1, .int p0), (2, .int p1), (3, .int p2)] := hl
  have k_0 := hts (.fieldLink RX7 41 "BeepNetModel" "cases" "[J") (by decide +kernel)
  have k_1 := hts (.fieldLink RX7 45 "BeepNetModel" "next" "[J") (by decide +kernel)
  have k_2 := hts (.fieldLink RX7 51 "BeepNetModel" "thrown" "I") (by decide +kernel)
  have k_3 := hts (.constantLong RX7 202 (-1000001)) (by decide +kernel)
  have k_4 := hts (.constantLong RX7 59 (7)) (by decide +kernel)
  have hiX7 : ∀ w ∈ u_ws RX7 TX7 28, w ∈ wsX7_draws := fun w hw => List.mem_cons_of_mem _ (List.mem_append_right _ hw)
  have hC76 : ∀ (n : Nat) (M_thrown : Int32) (M_cases : Nat → Int64) (M_next : Nat → Int64) (x1 : Int32) (x2 : Int32) (x3 : Int32) (x4 : Int32) (H : Heap) (locs : List Loc) (ls : Array Slot), fX7_draws_c76 M_posts M_beside n M_thrown M_cases M_next x1 x2 x3 x4 = some (rr, M_thrown_z, M_cases_z, M_next_z) → va_P (dC, dI) vwCl [(aM, .inr (7, [.int M_thrown, .int M_status, .ref aM_lane, .ref aM_many, .ref aM_item, .int M_posts, .ref aM_beside, .int M_rounds, .ref aM_round, .int M_read, .ref aM_reads, .ref aM_tape, .int M_taped, .int M_latest, .int M_length, .int M_at, .int M_sort, .int M_from, .int M_till, .int M_fault, .int M_faultAt, .ref aM_fewest, .ref aM_may, .ref aM_then, .ref aM_cases, .ref aM_next, .ref aM_trace, .int M_traced])), (aM_beside, .inl (cI, 8, .inl M_beside)), (aM_cases, .inl (cJ, 256, .inr (.inl M_cases))), (aM_next, .inl (cJ, 256, .inr (.inl M_next)))] H → va_D A [(aM, .inr (7, [.int M_thrown, .int M_status, .ref aM_lane, .ref aM_many, .ref aM_item, .int M_posts, .ref aM_beside, .int M_rounds, .ref aM_round, .int M_read, .ref aM_reads, .ref aM_tape, .int M_taped, .int M_latest, .int M_length, .int M_at, .int M_sort, .int M_from, .int M_till, .int M_fault, .int M_faultAt, .ref aM_fewest, .ref aM_may, .ref aM_then, .ref aM_cases, .ref aM_next, .ref aM_trace, .int M_traced])), (aM_beside, .inl (cI, 8, .inl M_beside)), (aM_cases, .inl (cJ, 256, .inr (.inl M_cases))), (aM_next, .inl (cJ, 256, .inr (.inl M_next)))] → va_S A s.heap H locs → lv_has ls 7 [(0, .ref aM), (1, .int x1), (2, .int x2), (3, .int x3), (4, .int x4)] → W p l e rmX7_draws s m args below meth c H locs 0 0 Q (F0 m 76 ls []) := by
    intro n
    induction n with
    | zero => intro M_thrown M_cases M_next x1 x2 x3 x4 H locs ls h; rw [fX7_draws_c76] at h; cases h
    | succ n76 ih76 =>
      have hC182 : ∀ (n : Nat) (M_thrown : Int32) (M_cases : Nat → Int64) (M_next : Nat → Int64) (x1 : Int32) (x2 : Int32) (x3 : Int32) (x4 : Int32) (x5 : Int32) (H : Heap) (locs : List Loc) (ls : Array Slot), fX7_draws_c182 M_posts M_beside (fX7_draws_c76 M_posts M_beside n76) n M_thrown M_cases M_next x1 x2 x3 x4 x5 = some (rr, M_thrown_z, M_cases_z, M_next_z) → va_P (dC, dI) vwCl [(aM, .inr (7, [.int M_thrown, .int M_status, .ref aM_lane, .ref aM_many, .ref aM_item, .int M_posts, .ref aM_beside, .int M_rounds, .ref aM_round, .int M_read, .ref aM_reads, .ref aM_tape, .int M_taped, .int M_latest, .int M_length, .int M_at, .int M_sort, .int M_from, .int M_till, .int M_fault, .int M_faultAt, .ref aM_fewest, .ref aM_may, .ref aM_then, .ref aM_cases, .ref aM_next, .ref aM_trace, .int M_traced])), (aM_beside, .inl (cI, 8, .inl M_beside)), (aM_cases, .inl (cJ, 256, .inr (.inl M_cases))), (aM_next, .inl (cJ, 256, .inr (.inl M_next)))] H → va_D A [(aM, .inr (7, [.int M_thrown, .int M_status, .ref aM_lane, .ref aM_many, .ref aM_item, .int M_posts, .ref aM_beside, .int M_rounds, .ref aM_round, .int M_read, .ref aM_reads, .ref aM_tape, .int M_taped, .int M_latest, .int M_length, .int M_at, .int M_sort, .int M_from, .int M_till, .int M_fault, .int M_faultAt, .ref aM_fewest, .ref aM_may, .ref aM_then, .ref aM_cases, .ref aM_next, .ref aM_trace, .int M_traced])), (aM_beside, .inl (cI, 8, .inl M_beside)), (aM_cases, .inl (cJ, 256, .inr (.inl M_cases))), (aM_next, .inl (cJ, 256, .inr (.inl M_next)))] → va_S A s.heap H locs → lv_has ls 7 [(0, .ref aM), (1, .int x1), (2, .int x2), (3, .int x3), (4, .int x4), (5, .int x5)] → W p l e rmX7_draws s m args below meth c H locs 0 0 Q (F0 m 182 ls []) := by
        intro n
        induction n with
        | zero => intro M_thrown M_cases M_next x1 x2 x3 x4 x5 H locs ls h; rw [fX7_draws_c182] at h; cases h
        | succ n182 ih182 =>
          intro M_thrown M_cases M_next x1 x2 x3 x4 x5 H locs ls h hP hD hS hl
          rw [fX7_draws_c182] at h
          refine lv_iload hx hb dX7_draws_182 (lv_at hl 5 rfl) ?_
          refine lv_sipush (v := 256) hx hb dX7_draws_184 (by decide) ?_
          refine lv_icmp_ge (tgt := 210) hx hb dX7_draws_187 (by decide) (fun c18301 => ?_) (fun c18301 => ?_)
          · have h := ift c18301 h
            refine lv_iinc (v := x4 + 1) (lv' := [(4, .int (x4 + 1)), (0, .ref aM), (1, .int x1), (2, .int x2), (3, .int x3), (5, .int x5)]) hx hb dX7_draws_210 hl (k := 4) rfl rfl (by decide) rfl (fun ls hl => ?_)
            refine lv_goto (tgt := 76) hx hb dX7_draws_213 (by decide) ?_
            exact ih76 M_thrown M_cases M_next x1 x2 x3 (x4 + 1) _ _ _ h hP hD hS (lv_sub hl [1, 2, 3, 4, 0] rfl)
          · have h := ifn c18301 h
            refine lv_aload_n hx hb dX7_draws_190 rfl (lv_at hl 0 rfl) ?_
            refine ka_get (v := .ref aM_cases) (C := RX7) (T := TX7) (Nf := 28) (ref := "BeepNetModel") hx hb hts hiX7 hown hK hP 0 rfl rfl 24 (by decide) k_0 rfl rfl dX7_draws_191 ?_
            refine lv_iload hx hb dX7_draws_194 (lv_at hl 5 rfl) ?_
            refine lv_aload_n hx hb dX7_draws_196 rfl (lv_at hl 0 rfl) ?_
            refine ka_get (v := .ref aM_next) (C := RX7) (T := TX7) (Nf := 28) (ref := "BeepNetModel") hx hb hts hiX7 hown hK hP 0 rfl rfl 25 (by decide) k_1 rfl rfl dX7_draws_197 ?_
            refine lv_iload hx hb dX7_draws_200 (lv_at hl 5 rfl) ?_
            obtain ⟨v18302, ev18302, hn18303, h⟩ := ldx_s h
            refine ka_lld hx hb hK hP 3 1 ev18302 rfl rfl hn18303 dX7_draws_202 ?_
            obtain ⟨g18304, eg18304, hn18305, h⟩ := stl_s h
            refine ka_lst (w1 := [(aM, .inr (7, [.int M_thrown, .int M_status, .ref aM_lane, .ref aM_many, .ref aM_item, .int M_posts, .ref aM_beside, .int M_rounds, .ref aM_round, .int M_read, .ref aM_reads, .ref aM_tape, .int M_taped, .int M_latest, .int M_length, .int M_at, .int M_sort, .int M_from, .int M_till, .int M_fault, .int M_faultAt, .ref aM_fewest, .ref aM_may, .ref aM_then, .ref aM_cases, .ref aM_next, .ref aM_trace, .int M_traced])), (aM_beside, .inl (cI, 8, .inl M_beside)), (aM_cases, .inl (cJ, 256, .inr (.inl g18304))), (aM_next, .inl (cJ, 256, .inr (.inl M_next)))]) hx hb hK hP hD hS 2 1 eg18304 rfl rfl hn18305 dX7_draws_203 rfl (fun H locs hP hD hS => ?_)
            refine lv_iinc (v := x5 + 1) (lv' := [(5, .int (x5 + 1)), (0, .ref aM), (1, .int x1), (2, .int x2), (3, .int x3), (4, .int x4)]) hx hb dX7_draws_204 hl (k := 5) rfl rfl (by decide) rfl (fun ls hl => ?_)
            refine lv_goto (tgt := 182) hx hb dX7_draws_207 (by decide) ?_
            exact ih182 M_thrown g18304 M_next x1 x2 x3 x4 (x5 + 1) _ _ _ h hP hD hS (lv_sub hl [1, 2, 3, 4, 5, 0] rfl)
      have hC110 : ∀ (n : Nat) (M_thrown : Int32) (M_cases : Nat → Int64) (M_next : Nat → Int64) (x1 : Int32) (x2 : Int32) (x3 : Int32) (x4 : Int32) (x5 : Int32) (H : Heap) (locs : List Loc) (ls : Array Slot), fX7_draws_c110 M_posts M_beside (fX7_draws_c76 M_posts M_beside n76) n M_thrown M_cases M_next x1 x2 x3 x4 x5 = some (rr, M_thrown_z, M_cases_z, M_next_z) → va_P (dC, dI) vwCl [(aM, .inr (7, [.int M_thrown, .int M_status, .ref aM_lane, .ref aM_many, .ref aM_item, .int M_posts, .ref aM_beside, .int M_rounds, .ref aM_round, .int M_read, .ref aM_reads, .ref aM_tape, .int M_taped, .int M_latest, .int M_length, .int M_at, .int M_sort, .int M_from, .int M_till, .int M_fault, .int M_faultAt, .ref aM_fewest, .ref aM_may, .ref aM_then, .ref aM_cases, .ref aM_next, .ref aM_trace, .int M_traced])), (aM_beside, .inl (cI, 8, .inl M_beside)), (aM_cases, .inl (cJ, 256, .inr (.inl M_cases))), (aM_next, .inl (cJ, 256, .inr (.inl M_next)))] H → va_D A [(aM, .inr (7, [.int M_thrown, .int M_status, .ref aM_lane, .ref aM_many, .ref aM_item, .int M_posts, .ref aM_beside, .int M_rounds, .ref aM_round, .int M_read, .ref aM_reads, .ref aM_tape, .int M_taped, .int M_latest, .int M_length, .int M_at, .int M_sort, .int M_from, .int M_till, .int M_fault, .int M_faultAt, .ref aM_fewest, .ref aM_may, .ref aM_then, .ref aM_cases, .ref aM_next, .ref aM_trace, .int M_traced])), (aM_beside, .inl (cI, 8, .inl M_beside)), (aM_cases, .inl (cJ, 256, .inr (.inl M_cases))), (aM_next, .inl (cJ, 256, .inr (.inl M_next)))] → va_S A s.heap H locs → lv_has ls 7 [(0, .ref aM), (1, .int x1), (2, .int x2), (3, .int x3), (4, .int x4), (5, .int x5)] → W p l e rmX7_draws s m args below meth c H locs 0 0 Q (F0 m 110 ls []) := by
        intro n
        induction n with
        | zero => intro M_thrown M_cases M_next x1 x2 x3 x4 x5 H locs ls h; rw [fX7_draws_c110] at h; cases h
        | succ n110 ih110 =>
          have hC122 : ∀ (n : Nat) (M_thrown : Int32) (M_cases : Nat → Int64) (M_next : Nat → Int64) (x1 : Int32) (x2 : Int32) (x3 : Int32) (x4 : Int32) (x5 : Int32) (x6 : Int32) (H : Heap) (locs : List Loc) (ls : Array Slot), fX7_draws_c122 M_posts M_beside (fX7_draws_c76 M_posts M_beside n76) (fX7_draws_c110 M_posts M_beside (fX7_draws_c76 M_posts M_beside n76) n110) n M_thrown M_cases M_next x1 x2 x3 x4 x5 x6 = some (rr, M_thrown_z, M_cases_z, M_next_z) → va_P (dC, dI) vwCl [(aM, .inr (7, [.int M_thrown, .int M_status, .ref aM_lane, .ref aM_many, .ref aM_item, .int M_posts, .ref aM_beside, .int M_rounds, .ref aM_round, .int M_read, .ref aM_reads, .ref aM_tape, .int M_taped, .int M_latest, .int M_length, .int M_at, .int M_sort, .int M_from, .int M_till, .int M_fault, .int M_faultAt, .ref aM_fewest, .ref aM_may, .ref aM_then, .ref aM_cases, .ref aM_next, .ref aM_trace, .int M_traced])), (aM_beside, .inl (cI, 8, .inl M_beside)), (aM_cases, .inl (cJ, 256, .inr (.inl M_cases))), (aM_next, .inl (cJ, 256, .inr (.inl M_next)))] H → va_D A [(aM, .inr (7, [.int M_thrown, .int M_status, .ref aM_lane, .ref aM_many, .ref aM_item, .int M_posts, .ref aM_beside, .int M_rounds, .ref aM_round, .int M_read, .ref aM_reads, .ref aM_tape, .int M_taped, .int M_latest, .int M_length, .int M_at, .int M_sort, .int M_from, .int M_till, .int M_fault, .int M_faultAt, .ref aM_fewest, .ref aM_may, .ref aM_then, .ref aM_cases, .ref aM_next, .ref aM_trace, .int M_traced])), (aM_beside, .inl (cI, 8, .inl M_beside)), (aM_cases, .inl (cJ, 256, .inr (.inl M_cases))), (aM_next, .inl (cJ, 256, .inr (.inl M_next)))] → va_S A s.heap H locs → lv_has ls 7 [(0, .ref aM), (1, .int x1), (2, .int x2), (3, .int x3), (4, .int x4), (5, .int x5), (6, .int x6)] → W p l e rmX7_draws s m args below meth c H locs 0 0 Q (F0 m 122 ls []) := by
            intro n
            induction n with
            | zero => intro M_thrown M_cases M_next x1 x2 x3 x4 x5 x6 H locs ls h; rw [fX7_draws_c122] at h; cases h
            | succ n122 ih122 =>
              intro M_thrown M_cases M_next x1 x2 x3 x4 x5 x6 H locs ls h hP hD hS hl
              rw [fX7_draws_c122] at h
              refine lv_iload hx hb dX7_draws_122 (lv_at hl 6 rfl) ?_
              refine lv_aload_n hx hb dX7_draws_124 rfl (lv_at hl 0 rfl) ?_
              obtain ⟨r12301, e12302, h⟩ := bd1_s h
              refine kc_vi (rest := [.int x6]) (wr := [(aM_beside, .inl (cI, 8, .inl M_beside)), (aM_cases, .inl (cJ, 256, .inr (.inl M_cases))), (aM_next, .inl (cJ, 256, .inr (.inl M_next)))]) (wF := [(aM, .inr (7, [.int M_thrown, .int M_status, .ref aM_lane, .ref aM_many, .ref aM_item, .int M_posts, .ref aM_beside, .int M_rounds, .ref aM_round, .int M_read, .ref aM_reads, .ref aM_tape, .int M_taped, .int M_latest, .int M_length, .int M_at, .int M_sort, .int M_from, .int M_till, .int M_fault, .int M_faultAt, .ref aM_fewest, .ref aM_may, .ref aM_then, .ref aM_cases, .ref aM_next, .ref aM_trace, .int M_traced])), (aM_beside, .inl (cI, 8, .inl M_beside)), (aM_cases, .inl (cJ, 256, .inr (.inl M_cases))), (aM_next, .inl (cJ, 256, .inr (.inl M_next)))]) ⟨hx, hb, hml, hown, hts⟩ (c_X7_all l dC dI cI cJ cZ cA aM aM_lane aM_many aM_item aM_beside aM_round aM_reads aM_tape aM_fewest aM_may aM_then aM_cases aM_next aM_trace M_thrown M_status M_posts M_rounds M_read M_taped M_latest M_length M_at M_sort M_from M_till M_fault M_faultAt M_traced r12301 e12302) (cwV 0 hts gX7_draws_X7_all rfl rfl rfl (by decide +kernel) ⟨Nat.le_of_ble_eq_true rfl, Nat.le_of_ble_eq_true rfl⟩) hK hP hD hS hA [0] [1, 2, 3] [3, 0, 1, 2] 0 rfl rfl rfl rfl (by decide) rfl rfl rfl rfl rfl rfl hl.1 rfl (Nat.le_of_ble_eq_true rfl) dX7_draws_125 ⟨Nat.zero_le _, Nat.zero_le _⟩ (fun H locs hP hD hS => ?_)
              refine lv_icmp_gt (tgt := 173) hx hb dX7_draws_128 (by decide) (fun c12303 => ?_) (fun c12303 => ?_)
              · have h := ift c12303 h
                refine lv_iinc (v := x5 + 1) (lv' := [(5, .int (x5 + 1)), (0, .ref aM), (1, .int x1), (2, .int x2), (3, .int x3), (4, .int x4), (6, .int x6)]) hx hb dX7_draws_173 hl (k := 5) rfl rfl (by decide) rfl (fun ls hl => ?_)
                refine lv_goto (tgt := 110) hx hb dX7_draws_176 (by decide) ?_
                exact ih110 M_thrown M_cases M_next x1 x2 x3 x4 (x5 + 1) _ _ _ h hP hD hS (lv_sub hl [1, 2, 3, 4, 5, 0] rfl)
              · have h := ifn c12303 h
                refine lv_aload_n hx hb dX7_draws_131 rfl (lv_at hl 0 rfl) ?_
                refine ka_get (v := .ref aM_cases) (C := RX7) (T := TX7) (Nf := 28) (ref := "BeepNetModel") hx hb hts hiX7 hown hK hP 0 rfl rfl 24 (by decide) k_0 rfl rfl dX7_draws_132 ?_
                refine lv_iload hx hb dX7_draws_135 (lv_at hl 5 rfl) ?_
                obtain ⟨v12304, ev12304, hn12305, h⟩ := ldx_s h
                refine ka_lld hx hb hK hP 2 1 ev12304 rfl rfl hn12305 dX7_draws_137 ?_
                refine lv_lconst (v := 0) hx hb dX7_draws_138 (by decide) ?_
                refine W.lcmp hx hb dX7_draws_139 ?_
                refine lv_if_le (tgt := 173) hx hb dX7_draws_140 (by decide) (fun c12306 => ?_) (fun c12306 => ?_)
                · have h := ift c12306 h
                  refine lv_iinc (v := x5 + 1) (lv' := [(5, .int (x5 + 1)), (0, .ref aM), (1, .int x1), (2, .int x2), (3, .int x3), (4, .int x4), (6, .int x6)]) hx hb dX7_draws_173 hl (k := 5) rfl rfl (by decide) rfl (fun ls hl => ?_)
                  refine lv_goto (tgt := 110) hx hb dX7_draws_176 (by decide) ?_
                  exact ih110 M_thrown M_cases M_next x1 x2 x3 x4 (x5 + 1) _ _ _ h hP hD hS (lv_sub hl [1, 2, 3, 4, 5, 0] rfl)
                · have h := ifn c12306 h
                  refine lv_aload_n hx hb dX7_draws_143 rfl (lv_at hl 0 rfl) ?_
                  refine ka_get (v := .ref aM_next) (C := RX7) (T := TX7) (Nf := 28) (ref := "BeepNetModel") hx hb hts hiX7 hown hK hP 0 rfl rfl 25 (by decide) k_1 rfl rfl dX7_draws_144 ?_
                  refine lv_aload_n hx hb dX7_draws_147 rfl (lv_at hl 0 rfl) ?_
                  refine lv_iload_n hx hb dX7_draws_148 rfl (lv_at hl 1 rfl) ?_
                  refine lv_iload hx hb dX7_draws_149 (lv_at hl 5 rfl) ?_
                  refine lv_iload hx hb dX7_draws_151 (lv_at hl 6 rfl) ?_
                  obtain ⟨r12307, e12308, h⟩ := bd1_s h
                  refine kc_vi (rest := [.ref aM_next]) (wr := [(aM_cases, .inl (cJ, 256, .inr (.inl M_cases))), (aM_next, .inl (cJ, 256, .inr (.inl M_next)))]) (wF := [(aM, .inr (7, [.int M_thrown, .int M_status, .ref aM_lane, .ref aM_many, .ref aM_item, .int M_posts, .ref aM_beside, .int M_rounds, .ref aM_round, .int M_read, .ref aM_reads, .ref aM_tape, .int M_taped, .int M_latest, .int M_length, .int M_at, .int M_sort, .int M_from, .int M_till, .int M_fault, .int M_faultAt, .ref aM_fewest, .ref aM_may, .ref aM_then, .ref aM_cases, .ref aM_next, .ref aM_trace, .int M_traced])), (aM_beside, .inl (cI, 8, .inl M_beside)), (aM_cases, .inl (cJ, 256, .inr (.inl M_cases))), (aM_next, .inl (cJ, 256, .inr (.inl M_next)))]) ⟨hx, hb, hml, hown, hts⟩ (c_X7_spread l dC dI cI cJ cZ cA aM aM_lane aM_many aM_item aM_beside aM_round aM_reads aM_tape aM_fewest aM_may aM_then aM_cases aM_next aM_trace M_thrown M_status M_posts M_rounds M_read M_taped M_latest M_length M_at M_sort M_from M_till M_fault M_faultAt M_traced M_beside x1 x5 x6 r12307 e12308) (cwV 3 hts gX7_draws_X7_spread rfl rfl rfl (by decide +kernel) ⟨Nat.le_of_ble_eq_true rfl, Nat.le_of_ble_eq_true rfl⟩) hK hP hD hS hA [0, 1] [2, 3] [2, 3, 0, 1] 0 rfl rfl rfl rfl (by decide) rfl rfl rfl rfl rfl rfl hl.1 rfl (Nat.le_of_ble_eq_true rfl) dX7_draws_153 ⟨Nat.zero_le _, Nat.zero_le _⟩ (fun H locs hP hD hS => ?_)
                  refine lv_dup2_11 hx hb dX7_draws_156 rfl rfl ?_
                  obtain ⟨v12309, ev12309, hn12310, h⟩ := ldx_s h
                  refine ka_lld hx hb hK hP 3 1 ev12309 rfl rfl hn12310 dX7_draws_157 ?_
                  refine lv_aload_n hx hb dX7_draws_158 rfl (lv_at hl 0 rfl) ?_
                  refine ka_get (v := .ref aM_cases) (C := RX7) (T := TX7) (Nf := 28) (ref := "BeepNetModel") hx hb hts hiX7 hown hK hP 0 rfl rfl 24 (by decide) k_0 rfl rfl dX7_draws_159 ?_
                  refine lv_iload hx hb dX7_draws_162 (lv_at hl 5 rfl) ?_
                  obtain ⟨v12311, ev12311, hn12312, h⟩ := ldx_s h
                  refine ka_lld hx hb hK hP 2 1 ev12311 rfl rfl hn12312 dX7_draws_164 ?_
                  refine lv_ladd hx hb dX7_draws_165 ?_
                  obtain ⟨g12313, eg12313, hn12314, h⟩ := stl_s h
                  refine ka_lst (w1 := [(aM, .inr (7, [.int M_thrown, .int M_status, .ref aM_lane, .ref aM_many, .ref aM_item, .int M_posts, .ref aM_beside, .int M_rounds, .ref aM_round, .int M_read, .ref aM_reads, .ref aM_tape, .int M_taped, .int M_latest, .int M_length, .int M_at, .int M_sort, .int M_from, .int M_till, .int M_fault, .int M_faultAt, .ref aM_fewest, .ref aM_may, .ref aM_then, .ref aM_cases, .ref aM_next, .ref aM_trace, .int M_traced])), (aM_beside, .inl (cI, 8, .inl M_beside)), (aM_cases, .inl (cJ, 256, .inr (.inl M_cases))), (aM_next, .inl (cJ, 256, .inr (.inl g12313)))]) hx hb hK hP hD hS 3 1 eg12313 rfl rfl hn12314 dX7_draws_166 rfl (fun H locs hP hD hS => ?_)
                  refine lv_iinc (v := x6 + 1) (lv' := [(6, .int (x6 + 1)), (0, .ref aM), (1, .int x1), (2, .int x2), (3, .int x3), (4, .int x4), (5, .int x5)]) hx hb dX7_draws_167 hl (k := 6) rfl rfl (by decide) rfl (fun ls hl => ?_)
                  refine lv_goto (tgt := 122) hx hb dX7_draws_170 (by decide) ?_
                  exact ih122 M_thrown M_cases g12313 x1 x2 x3 x4 x5 (x6 + 1) _ _ _ h hP hD hS (lv_sub hl [1, 2, 3, 4, 5, 6, 0] rfl)
          intro M_thrown M_cases M_next x1 x2 x3 x4 x5 H locs ls h hP hD hS hl
          rw [fX7_draws_c110] at h
          refine lv_iload hx hb dX7_draws_110 (lv_at hl 5 rfl) ?_
          refine lv_aload_n hx hb dX7_draws_112 rfl (lv_at hl 0 rfl) ?_
          obtain ⟨r11101, e11102, h⟩ := bd1_s h
          refine kc_vi (rest := [.int x5]) (wr := [(aM_beside, .inl (cI, 8, .inl M_beside)), (aM_cases, .inl (cJ, 256, .inr (.inl M_cases))), (aM_next, .inl (cJ, 256, .inr (.inl M_next)))]) (wF := [(aM, .inr (7, [.int M_thrown, .int M_status, .ref aM_lane, .ref aM_many, .ref aM_item, .int M_posts, .ref aM_beside, .int M_rounds, .ref aM_round, .int M_read, .ref aM_reads, .ref aM_tape, .int M_taped, .int M_latest, .int M_length, .int M_at, .int M_sort, .int M_from, .int M_till, .int M_fault, .int M_faultAt, .ref aM_fewest, .ref aM_may, .ref aM_then, .ref aM_cases, .ref aM_next, .ref aM_trace, .int M_traced])), (aM_beside, .inl (cI, 8, .inl M_beside)), (aM_cases, .inl (cJ, 256, .inr (.inl M_cases))), (aM_next, .inl (cJ, 256, .inr (.inl M_next)))]) ⟨hx, hb, hml, hown, hts⟩ (c_X7_all l dC dI cI cJ cZ cA aM aM_lane aM_many aM_item aM_beside aM_round aM_reads aM_tape aM_fewest aM_may aM_then aM_cases aM_next aM_trace M_thrown M_status M_posts M_rounds M_read M_taped M_latest M_length M_at M_sort M_from M_till M_fault M_faultAt M_traced r11101 e11102) (cwV 0 hts gX7_draws_X7_all rfl rfl rfl (by decide +kernel) ⟨Nat.le_of_ble_eq_true rfl, Nat.le_of_ble_eq_true rfl⟩) hK hP hD hS hA [0] [1, 2, 3] [3, 0, 1, 2] 0 rfl rfl rfl rfl (by decide) rfl rfl rfl rfl rfl rfl hl.1 rfl (Nat.le_of_ble_eq_true rfl) dX7_draws_113 ⟨Nat.zero_le _, Nat.zero_le _⟩ (fun H locs hP hD hS => ?_)
          refine lv_icmp_gt (tgt := 179) hx hb dX7_draws_116 (by decide) (fun c11103 => ?_) (fun c11103 => ?_)
          · have h := ift c11103 h
            refine lv_iconst (v := 0) hx hb dX7_draws_179 (by decide) ?_
            refine lv_istore (lv' := [(5, .int 0), (0, .ref aM), (1, .int x1), (2, .int x2), (3, .int x3), (4, .int x4)]) hx hb dX7_draws_180 hl (by decide) rfl (fun ls hl => ?_)
            exact hC182 FU M_thrown M_cases M_next x1 x2 x3 x4 0 _ _ _ h hP hD hS (lv_sub hl [1, 2, 3, 4, 5, 0] rfl)
          · have h := ifn c11103 h
            refine lv_iconst (v := 0) hx hb dX7_draws_119 (by decide) ?_
            refine lv_istore (lv' := [(6, .int 0), (0, .ref aM), (1, .int x1), (2, .int x2), (3, .int x3), (4, .int x4), (5, .int x5)]) hx hb dX7_draws_120 hl (by decide) rfl (fun ls hl => ?_)
            exact hC122 FU M_thrown M_cases M_next x1 x2 x3 x4 x5 0 _ _ _ h hP hD hS (lv_sub hl [1, 2, 3, 4, 5, 6, 0] rfl)
      have hC85 : ∀ (n : Nat) (M_thrown : Int32) (M_cases : Nat → Int64) (M_next : Nat → Int64) (x1 : Int32) (x2 : Int32) (x3 : Int32) (x4 : Int32) (x5 : Int32) (H : Heap) (locs : List Loc) (ls : Array Slot), fX7_draws_c85 M_posts M_beside (fX7_draws_c76 M_posts M_beside n76) n M_thrown M_cases M_next x1 x2 x3 x4 x5 = some (rr, M_thrown_z, M_cases_z, M_next_z) → va_P (dC, dI) vwCl [(aM, .inr (7, [.int M_thrown, .int M_status, .ref aM_lane, .ref aM_many, .ref aM_item, .int M_posts, .ref aM_beside, .int M_rounds, .ref aM_round, .int M_read, .ref aM_reads, .ref aM_tape, .int M_taped, .int M_latest, .int M_length, .int M_at, .int M_sort, .int M_from, .int M_till, .int M_fault, .int M_faultAt, .ref aM_fewest, .ref aM_may, .ref aM_then, .ref aM_cases, .ref aM_next, .ref aM_trace, .int M_traced])), (aM_beside, .inl (cI, 8, .inl M_beside)), (aM_cases, .inl (cJ, 256, .inr (.inl M_cases))), (aM_next, .inl (cJ, 256, .inr (.inl M_next)))] H → va_D A [(aM, .inr (7, [.int M_thrown, .int M_status, .ref aM_lane, .ref aM_many, .ref aM_item, .int M_posts, .ref aM_beside, .int M_rounds, .ref aM_round, .int M_read, .ref aM_reads, .ref aM_tape, .int M_taped, .int M_latest, .int M_length, .int M_at, .int M_sort, .int M_from, .int M_till, .int M_fault, .int M_faultAt, .ref aM_fewest, .ref aM_may, .ref aM_then, .ref aM_cases, .ref aM_next, .ref aM_trace, .int M_traced])), (aM_beside, .inl (cI, 8, .inl M_beside)), (aM_cases, .inl (cJ, 256, .inr (.inl M_cases))), (aM_next, .inl (cJ, 256, .inr (.inl M_next)))] → va_S A s.heap H locs → lv_has ls 7 [(0, .ref aM), (1, .int x1), (2, .int x2), (3, .int x3), (4, .int x4), (5, .int x5)] → W p l e rmX7_draws s m args below meth c H locs 0 0 Q (F0 m 85 ls []) := by
        intro n
        induction n with
        | zero => intro M_thrown M_cases M_next x1 x2 x3 x4 x5 H locs ls h; rw [fX7_draws_c85] at h; cases h
        | succ n85 ih85 =>
          intro M_thrown M_cases M_next x1 x2 x3 x4 x5 H locs ls h hP hD hS hl
          rw [fX7_draws_c85] at h
          refine lv_iload hx hb dX7_draws_85 (lv_at hl 5 rfl) ?_
          refine lv_sipush (v := 256) hx hb dX7_draws_87 (by decide) ?_
          refine lv_icmp_ge (tgt := 107) hx hb dX7_draws_90 (by decide) (fun c8601 => ?_) (fun c8601 => ?_)
          · have h := ift c8601 h
            refine lv_iconst (v := 0) hx hb dX7_draws_107 (by decide) ?_
            refine lv_istore (lv' := [(5, .int 0), (0, .ref aM), (1, .int x1), (2, .int x2), (3, .int x3), (4, .int x4)]) hx hb dX7_draws_108 hl (by decide) rfl (fun ls hl => ?_)
            exact hC110 FU M_thrown M_cases M_next x1 x2 x3 x4 0 _ _ _ h hP hD hS (lv_sub hl [1, 2, 3, 4, 5, 0] rfl)
          · have h := ifn c8601 h
            refine lv_aload_n hx hb dX7_draws_93 rfl (lv_at hl 0 rfl) ?_
            refine ka_get (v := .ref aM_next) (C := RX7) (T := TX7) (Nf := 28) (ref := "BeepNetModel") hx hb hts hiX7 hown hK hP 0 rfl rfl 25 (by decide) k_1 rfl rfl dX7_draws_94 ?_
            refine lv_iload hx hb dX7_draws_97 (lv_at hl 5 rfl) ?_
            refine lv_lconst (v := 0) hx hb dX7_draws_99 (by decide) ?_
            obtain ⟨g8602, eg8602, hn8603, h⟩ := stl_s h
            refine ka_lst (w1 := [(aM, .inr (7, [.int M_thrown, .int M_status, .ref aM_lane, .ref aM_many, .ref aM_item, .int M_posts, .ref aM_beside, .int M_rounds, .ref aM_round, .int M_read, .ref aM_reads, .ref aM_tape, .int M_taped, .int M_latest, .int M_length, .int M_at, .int M_sort, .int M_from, .int M_till, .int M_fault, .int M_faultAt, .ref aM_fewest, .ref aM_may, .ref aM_then, .ref aM_cases, .ref aM_next, .ref aM_trace, .int M_traced])), (aM_beside, .inl (cI, 8, .inl M_beside)), (aM_cases, .inl (cJ, 256, .inr (.inl M_cases))), (aM_next, .inl (cJ, 256, .inr (.inl g8602)))]) hx hb hK hP hD hS 3 1 eg8602 rfl rfl hn8603 dX7_draws_100 rfl (fun H locs hP hD hS => ?_)
            refine lv_iinc (v := x5 + 1) (lv' := [(5, .int (x5 + 1)), (0, .ref aM), (1, .int x1), (2, .int x2), (3, .int x3), (4, .int x4)]) hx hb dX7_draws_101 hl (k := 5) rfl rfl (by decide) rfl (fun ls hl => ?_)
            refine lv_goto (tgt := 85) hx hb dX7_draws_104 (by decide) ?_
            exact ih85 M_thrown M_cases g8602 x1 x2 x3 x4 (x5 + 1) _ _ _ h hP hD hS (lv_sub hl [1, 2, 3, 4, 5, 0] rfl)
      intro M_thrown M_cases M_next x1 x2 x3 x4 H locs ls h hP hD hS hl
      rw [fX7_draws_c76] at h
      refine lv_iload hx hb dX7_draws_76 (lv_at hl 4 rfl) ?_
      refine lv_iload_n hx hb dX7_draws_78 rfl (lv_at hl 3 rfl) ?_
      refine lv_icmp_ge (tgt := 216) hx hb dX7_draws_79 (by decide) (fun c7701 => ?_) (fun c7701 => ?_)
      · have h := ift c7701 h
        refine lv_aload_n hx hb dX7_draws_216 rfl (lv_at hl 0 rfl) ?_
        refine ka_get (v := .ref aM_cases) (C := RX7) (T := TX7) (Nf := 28) (ref := "BeepNetModel") hx hb hts hiX7 hown hK hP 0 rfl rfl 24 (by decide) k_0 rfl rfl dX7_draws_217 ?_
        refine lv_aload_n hx hb dX7_draws_220 rfl (lv_at hl 0 rfl) ?_
        refine lv_iconst (v := 1) hx hb dX7_draws_221 (by decide) ?_
        refine lv_iload_n hx hb dX7_draws_222 rfl (lv_at hl 2 rfl) ?_
        refine lv_ishl hx hb dX7_draws_223 ?_
        obtain ⟨r7702, e7703, h⟩ := bd1_s h
        refine kc_vi (rest := [.ref aM_cases]) (wr := [(aM_cases, .inl (cJ, 256, .inr (.inl M_cases))), (aM_next, .inl (cJ, 256, .inr (.inl M_next)))]) (wF := [(aM, .inr (7, [.int M_thrown, .int M_status, .ref aM_lane, .ref aM_many, .ref aM_item, .int M_posts, .ref aM_beside, .int M_rounds, .ref aM_round, .int M_read, .ref aM_reads, .ref aM_tape, .int M_taped, .int M_latest, .int M_length, .int M_at, .int M_sort, .int M_from, .int M_till, .int M_fault, .int M_faultAt, .ref aM_fewest, .ref aM_may, .ref aM_then, .ref aM_cases, .ref aM_next, .ref aM_trace, .int M_traced])), (aM_beside, .inl (cI, 8, .inl M_beside)), (aM_cases, .inl (cJ, 256, .inr (.inl M_cases))), (aM_next, .inl (cJ, 256, .inr (.inl M_next)))]) ⟨hx, hb, hml, hown, hts⟩ (c_X7_reach l dC dI cI cJ cZ cA aM aM_lane aM_many aM_item aM_beside aM_round aM_reads aM_tape aM_fewest aM_may aM_then aM_cases aM_next aM_trace M_thrown M_status M_posts M_rounds M_read M_taped M_latest M_length M_at M_sort M_from M_till M_fault M_faultAt M_traced M_beside ((1 : Int32) <<< (x2 &&& 31)) r7702 e7703) (cwV 1 hts gX7_draws_X7_reach rfl rfl rfl (by decide +kernel) ⟨Nat.le_of_ble_eq_true rfl, Nat.le_of_ble_eq_true rfl⟩) hK hP hD hS hA [0, 1] [2, 3] [2, 3, 0, 1] 0 rfl rfl rfl rfl (by decide) rfl rfl rfl rfl rfl rfl hl.1 rfl (Nat.le_of_ble_eq_true rfl) dX7_draws_224 ⟨Nat.zero_le _, Nat.zero_le _⟩ (fun H locs hP hD hS => ?_)
        obtain ⟨v7704, ev7704, hn7705, h⟩ := ldx_s h
        refine ka_lld hx hb hK hP 2 1 ev7704 rfl rfl hn7705 dX7_draws_227 ?_
        obtain ⟨rfl, rfl, rfl, rfl⟩ := sj4 h
        exact hret _ _ _ _ _ rfl hP hD hS dX7_draws_228
      · have h := ifn c7701 h
        refine lv_iconst (v := 0) hx hb dX7_draws_82 (by decide) ?_
        refine lv_istore (lv' := [(5, .int 0), (0, .ref aM), (1, .int x1), (2, .int x2), (3, .int x3), (4, .int x4)]) hx hb dX7_draws_83 hl (by decide) rfl (fun ls hl => ?_)
        exact hC85 FU M_thrown M_cases M_next x1 x2 x3 x4 0 _ _ _ h hP hD hS (lv_sub hl [1, 2, 3, 4, 5, 0] rfl)
  have hC39 : ∀ (n : Nat) (M_thrown : Int32) (M_cases : Nat → Int64) (M_next : Nat → Int64) (x1 : Int32) (x2 : Int32) (x3 : Int32) (x4 : Int32) (H : Heap) (locs : List Loc) (ls : Array Slot), fX7_draws_c39 M_posts M_beside n M_thrown M_cases M_next x1 x2 x3 x4 = some (rr, M_thrown_z, M_cases_z, M_next_z) → va_P (dC, dI) vwCl [(aM, .inr (7, [.int M_thrown, .int M_status, .ref aM_lane, .ref aM_many, .ref aM_item, .int M_posts, .ref aM_beside, .int M_rounds, .ref aM_round, .int M_read, .ref aM_reads, .ref aM_tape, .int M_taped, .int M_latest, .int M_length, .int M_at, .int M_sort, .int M_from, .int M_till, .int M_fault, .int M_faultAt, .ref aM_fewest, .ref aM_may, .ref aM_then, .ref aM_cases, .ref aM_next, .ref aM_trace, .int M_traced])), (aM_beside, .inl (cI, 8, .inl M_beside)), (aM_cases, .inl (cJ, 256, .inr (.inl M_cases))), (aM_next, .inl (cJ, 256, .inr (.inl M_next)))] H → va_D A [(aM, .inr (7, [.int M_thrown, .int M_status, .ref aM_lane, .ref aM_many, .ref aM_item, .int M_posts, .ref aM_beside, .int M_rounds, .ref aM_round, .int M_read, .ref aM_reads, .ref aM_tape, .int M_taped, .int M_latest, .int M_length, .int M_at, .int M_sort, .int M_from, .int M_till, .int M_fault, .int M_faultAt, .ref aM_fewest, .ref aM_may, .ref aM_then, .ref aM_cases, .ref aM_next, .ref aM_trace, .int M_traced])), (aM_beside, .inl (cI, 8, .inl M_beside)), (aM_cases, .inl (cJ, 256, .inr (.inl M_cases))), (aM_next, .inl (cJ, 256, .inr (.inl M_next)))] → va_S A s.heap H locs → lv_has ls 7 [(0, .ref aM), (1, .int x1), (2, .int x2), (3, .int x3), (4, .int x4)] → W p l e rmX7_draws s m args below meth c H locs 0 0 Q (F0 m 39 ls []) := by
    intro n
    induction n with
    | zero => intro M_thrown M_cases M_next x1 x2 x3 x4 H locs ls h; rw [fX7_draws_c39] at h; cases h
    | succ n39 ih39 =>
      intro M_thrown M_cases M_next x1 x2 x3 x4 H locs ls h hP hD hS hl
      rw [fX7_draws_c39] at h
      refine lv_iload hx hb dX7_draws_39 (lv_at hl 4 rfl) ?_
      refine lv_sipush (v := 256) hx hb dX7_draws_41 (by decide) ?_
      refine lv_icmp_ge (tgt := 73) hx hb dX7_draws_44 (by decide) (fun c4001 => ?_) (fun c4001 => ?_)
      · have h := ift c4001 h
        refine lv_iconst (v := 0) hx hb dX7_draws_73 (by decide) ?_
        refine lv_istore (lv' := [(4, .int 0), (0, .ref aM), (1, .int x1), (2, .int x2), (3, .int x3)]) hx hb dX7_draws_74 hl (by decide) rfl (fun ls hl => ?_)
        exact hC76 FU M_thrown M_cases M_next x1 x2 x3 0 _ _ _ h hP hD hS (lv_sub hl [1, 2, 3, 4, 0] rfl)
      · have h := ifn c4001 h
        refine lv_aload_n hx hb dX7_draws_47 rfl (lv_at hl 0 rfl) ?_
        refine ka_get (v := .ref aM_cases) (C := RX7) (T := TX7) (Nf := 28) (ref := "BeepNetModel") hx hb hts hiX7 hown hK hP 0 rfl rfl 24 (by decide) k_0 rfl rfl dX7_draws_48 ?_
        refine lv_iload hx hb dX7_draws_51 (lv_at hl 4 rfl) ?_
        refine lv_iload hx hb dX7_draws_53 (lv_at hl 4 rfl) ?_
        refine lv_iconst (v := 1) hx hb dX7_draws_55 (by decide) ?_
        refine lv_iload_n hx hb dX7_draws_56 rfl (lv_at hl 2 rfl) ?_
        refine lv_ishl hx hb dX7_draws_57 ?_
        refine lv_icmp_ne (tgt := 65) hx hb dX7_draws_58 (by decide) (fun c4002 => ?_) (fun c4002 => ?_)
        · have h := ifn c4002 h
          refine lv_lconst (v := 0) hx hb dX7_draws_65 (by decide) ?_
          obtain ⟨g4003, eg4003, hn4004, h⟩ := stl_s h
          refine ka_lst (w1 := [(aM, .inr (7, [.int M_thrown, .int M_status, .ref aM_lane, .ref aM_many, .ref aM_item, .int M_posts, .ref aM_beside, .int M_rounds, .ref aM_round, .int M_read, .ref aM_reads, .ref aM_tape, .int M_taped, .int M_latest, .int M_length, .int M_at, .int M_sort, .int M_from, .int M_till, .int M_fault, .int M_faultAt, .ref aM_fewest, .ref aM_may, .ref aM_then, .ref aM_cases, .ref aM_next, .ref aM_trace, .int M_traced])), (aM_beside, .inl (cI, 8, .inl M_beside)), (aM_cases, .inl (cJ, 256, .inr (.inl g4003))), (aM_next, .inl (cJ, 256, .inr (.inl M_next)))]) hx hb hK hP hD hS 2 1 eg4003 rfl rfl hn4004 dX7_draws_66 rfl (fun H locs hP hD hS => ?_)
          refine lv_iinc (v := x4 + 1) (lv' := [(4, .int (x4 + 1)), (0, .ref aM), (1, .int x1), (2, .int x2), (3, .int x3)]) hx hb dX7_draws_67 hl (k := 4) rfl rfl (by decide) rfl (fun ls hl => ?_)
          refine lv_goto (tgt := 39) hx hb dX7_draws_70 (by decide) ?_
          exact ih39 M_thrown g4003 M_next x1 x2 x3 (x4 + 1) _ _ _ h hP hD hS (lv_sub hl [1, 2, 3, 4, 0] rfl)
        · have h := ift c4002 h
          refine lv_lconst (v := 1) hx hb dX7_draws_61 (by decide) ?_
          refine lv_goto (tgt := 66) hx hb dX7_draws_62 (by decide) ?_
          obtain ⟨g4005, eg4005, hn4006, h⟩ := stl_s h
          refine ka_lst (w1 := [(aM, .inr (7, [.int M_thrown, .int M_status, .ref aM_lane, .ref aM_many, .ref aM_item, .int M_posts, .ref aM_beside, .int M_rounds, .ref aM_round, .int M_read, .ref aM_reads, .ref aM_tape, .int M_taped, .int M_latest, .int M_length, .int M_at, .int M_sort, .int M_from, .int M_till, .int M_fault, .int M_faultAt, .ref aM_fewest, .ref aM_may, .ref aM_then, .ref aM_cases, .ref aM_next, .ref aM_trace, .int M_traced])), (aM_beside, .inl (cI, 8, .inl M_beside)), (aM_cases, .inl (cJ, 256, .inr (.inl g4005))), (aM_next, .inl (cJ, 256, .inr (.inl M_next)))]) hx hb hK hP hD hS 2 1 eg4005 rfl rfl hn4006 dX7_draws_66 rfl (fun H locs hP hD hS => ?_)
          refine lv_iinc (v := x4 + 1) (lv' := [(4, .int (x4 + 1)), (0, .ref aM), (1, .int x1), (2, .int x2), (3, .int x3)]) hx hb dX7_draws_67 hl (k := 4) rfl rfl (by decide) rfl (fun ls hl => ?_)
          refine lv_goto (tgt := 39) hx hb dX7_draws_70 (by decide) ?_
          exact ih39 M_thrown g4005 M_next x1 x2 x3 (x4 + 1) _ _ _ h hP hD hS (lv_sub hl [1, 2, 3, 4, 0] rfl)
  unfold fX7_draws at h
  refine lv_aload_n hx hb dX7_draws_0 rfl (lv_at hl 0 rfl) ?_
  refine lv_iconst (v := 0) hx hb dX7_draws_1 (by decide) ?_
  refine ka_put (w1 := [(aM, .inr (7, [.int 0, .int M_status, .ref aM_lane, .ref aM_many, .ref aM_item, .int M_posts, .ref aM_beside, .int M_rounds, .ref aM_round, .int M_read, .ref aM_reads, .ref aM_tape, .int M_taped, .int M_latest, .int M_length, .int M_at, .int M_sort, .int M_from, .int M_till, .int M_fault, .int M_faultAt, .ref aM_fewest, .ref aM_may, .ref aM_then, .ref aM_cases, .ref aM_next, .ref aM_trace, .int M_traced])), (aM_beside, .inl (cI, 8, .inl M_beside)), (aM_cases, .inl (cJ, 256, .inr (.inl M_cases))), (aM_next, .inl (cJ, 256, .inr (.inl M_next)))]) (C := RX7) (T := TX7) (Nf := 28) (ref := "BeepNetModel") hx hb hts hiX7 tyX7 tyX7_ok nmX7 hown hK hP hD hS 0 rfl rfl 0 (by decide) k_2 rfl rfl rfl (Nat.le_of_ble_eq_true rfl) dX7_draws_2 rfl (fun H locs hP hD hS => ?_)
  refine lv_iload_n hx hb dX7_draws_5 rfl (lv_at hl 1 rfl) ?_
  obtain ⟨r1, e2, h⟩ := bd1_s h
  refine kc_si (rest := []) (wr := [(aM, .inr (7, [.int 0, .int M_status, .ref aM_lane, .ref aM_many, .ref aM_item, .int M_posts, .ref aM_beside, .int M_rounds, .ref aM_round, .int M_read, .ref aM_reads, .ref aM_tape, .int M_taped, .int M_latest, .int M_length, .int M_at, .int M_sort, .int M_from, .int M_till, .int M_fault, .int M_faultAt, .ref aM_fewest, .ref aM_may, .ref aM_then, .ref aM_cases, .ref aM_next, .ref aM_trace, .int M_traced])), (aM_beside, .inl (cI, 8, .inl M_beside)), (aM_cases, .inl (cJ, 256, .inr (.inl M_cases))), (aM_next, .inl (cJ, 256, .inr (.inl M_next)))]) (wF := [(aM, .inr (7, [.int 0, .int M_status, .ref aM_lane, .ref aM_many, .ref aM_item, .int M_posts, .ref aM_beside, .int M_rounds, .ref aM_round, .int M_read, .ref aM_reads, .ref aM_tape, .int M_taped, .int M_latest, .int M_length, .int M_at, .int M_sort, .int M_from, .int M_till, .int M_fault, .int M_faultAt, .ref aM_fewest, .ref aM_may, .ref aM_then, .ref aM_cases, .ref aM_next, .ref aM_trace, .int M_traced])), (aM_beside, .inl (cI, 8, .inl M_beside)), (aM_cases, .inl (cJ, 256, .inr (.inl M_cases))), (aM_next, .inl (cJ, 256, .inr (.inl M_next)))]) ⟨hx, hb, hml, hown, hts⟩ (c_X7_isHearing l dC dI cI cJ cZ cA p0 r1 e2) (va_cwS 1 hts gX7_draws_X7_isHearing rfl rfl rfl (by decide +kernel) ⟨Nat.le_of_ble_eq_true rfl, Nat.le_of_ble_eq_true rfl⟩) hK hP hD hS hA [] [0, 1, 2, 3] [0, 1, 2, 3] rfl rfl rfl rfl (by decide) rfl rfl rfl hl.1 rfl (Nat.le_of_ble_eq_true rfl) dX7_draws_6 ⟨Nat.zero_le _, Nat.zero_le _⟩ (fun H locs hP hD hS => ?_)
  refine lv_if_eq (tgt := 32) hx hb dX7_draws_9 (by decide) (fun c3 => ?_) (fun c3 => ?_)
  · have h := ift c3 h
    refine lv_ldc2 hx hb hown k_3 dX7_draws_32 ?_
    obtain ⟨rfl, rfl, rfl, rfl⟩ := sj4 h
    exact hret _ _ _ _ _ rfl hP hD hS dX7_draws_35
  · have h := ifn c3 h
    refine lv_aload_n hx hb dX7_draws_12 rfl (lv_at hl 0 rfl) ?_
    refine lv_iload_n hx hb dX7_draws_13 rfl (lv_at hl 2 rfl) ?_
    obtain ⟨r4, e5, h⟩ := bd1_s h
    refine kc_vi (rest := []) (wr := [(aM_beside, .inl (cI, 8, .inl M_beside)), (aM_cases, .inl (cJ, 256, .inr (.inl M_cases))), (aM_next, .inl (cJ, 256, .inr (.inl M_next)))]) (wF := [(aM, .inr (7, [.int 0, .int M_status, .ref aM_lane, .ref aM_many, .ref aM_item, .int M_posts, .ref aM_beside, .int M_rounds, .ref aM_round, .int M_read, .ref aM_reads, .ref aM_tape, .int M_taped, .int M_latest, .int M_length, .int M_at, .int M_sort, .int M_from, .int M_till, .int M_fault, .int M_faultAt, .ref aM_fewest, .ref aM_may, .ref aM_then, .ref aM_cases, .ref aM_next, .ref aM_trace, .int M_traced])), (aM_beside, .inl (cI, 8, .inl M_beside)), (aM_cases, .inl (cJ, 256, .inr (.inl M_cases))), (aM_next, .inl (cJ, 256, .inr (.inl M_next)))]) ⟨hx, hb, hml, hown, hts⟩ (c_X7_isPost l dC dI cI cJ cZ cA aM aM_lane aM_many aM_item aM_beside aM_round aM_reads aM_tape aM_fewest aM_may aM_then aM_cases aM_next aM_trace 0 M_status M_posts M_rounds M_read M_taped M_latest M_length M_at M_sort M_from M_till M_fault M_faultAt M_traced p1 r4 e5) (cwV 1 hts gX7_draws_X7_isPost rfl rfl rfl (by decide +kernel) ⟨Nat.le_of_ble_eq_true rfl, Nat.le_of_ble_eq_true rfl⟩) hK hP hD hS hA [0] [1, 2, 3] [3, 0, 1, 2] 0 rfl rfl rfl rfl (by decide) rfl rfl rfl rfl rfl rfl hl.1 rfl (Nat.le_of_ble_eq_true rfl) dX7_draws_14 ⟨Nat.zero_le _, Nat.zero_le _⟩ (fun H locs hP hD hS => ?_)
    refine lv_if_eq (tgt := 32) hx hb dX7_draws_17 (by decide) (fun c6 => ?_) (fun c6 => ?_)
    · have h := ift c6 h
      refine lv_ldc2 hx hb hown k_3 dX7_draws_32 ?_
      obtain ⟨rfl, rfl, rfl, rfl⟩ := sj4 h
      exact hret _ _ _ _ _ rfl hP hD hS dX7_draws_35
    · have h := ifn c6 h
      refine lv_iload_n hx hb dX7_draws_20 rfl (lv_at hl 3 rfl) ?_
      refine lv_i2l hx hb dX7_draws_21 rfl ?_
      refine lv_lconst (v := 0) hx hb dX7_draws_22 (by decide) ?_
      refine lv_ldc2 hx hb hown k_4 dX7_draws_23 ?_
      obtain ⟨r7, e8, h⟩ := bd1_s h
      refine kc_si (rest := []) (wr := [(aM, .inr (7, [.int 0, .int M_status, .ref aM_lane, .ref aM_many, .ref aM_item, .int M_posts, .ref aM_beside, .int M_rounds, .ref aM_round, .int M_read, .ref aM_reads, .ref aM_tape, .int M_taped, .int M_latest, .int M_length, .int M_at, .int M_sort, .int M_from, .int M_till, .int M_fault, .int M_faultAt, .ref aM_fewest, .ref aM_may, .ref aM_then, .ref aM_cases, .ref aM_next, .ref aM_trace, .int M_traced])), (aM_beside, .inl (cI, 8, .inl M_beside)), (aM_cases, .inl (cJ, 256, .inr (.inl M_cases))), (aM_next, .inl (cJ, 256, .inr (.inl M_next)))]) (wF := [(aM, .inr (7, [.int 0, .int M_status, .ref aM_lane, .ref aM_many, .ref aM_item, .int M_posts, .ref aM_beside, .int M_rounds, .ref aM_round, .int M_read, .ref aM_reads, .ref aM_tape, .int M_taped, .int M_latest, .int M_length, .int M_at, .int M_sort, .int M_from, .int M_till, .int M_fault, .int M_faultAt, .ref aM_fewest, .ref aM_may, .ref aM_then, .ref aM_cases, .ref aM_next, .ref aM_trace, .int M_traced])), (aM_beside, .inl (cI, 8, .inl M_beside)), (aM_cases, .inl (cJ, 256, .inr (.inl M_cases))), (aM_next, .inl (cJ, 256, .inr (.inl M_next)))]) ⟨hx, hb, hml, hown, hts⟩ (c_X7_in l dC dI cI cJ cZ cA p2.toInt64 0 7 r7 e8) (va_cwS 3 hts gX7_draws_X7_in rfl rfl rfl (by decide +kernel) ⟨Nat.le_of_ble_eq_true rfl, Nat.le_of_ble_eq_true rfl⟩) hK hP hD hS hA [] [0, 1, 2, 3] [0, 1, 2, 3] rfl rfl rfl rfl (by decide) rfl rfl rfl hl.1 rfl (Nat.le_of_ble_eq_true rfl) dX7_draws_26 ⟨Nat.zero_le _, Nat.zero_le _⟩ (fun H locs hP hD hS => ?_)
      refine lv_if_ne (tgt := 36) hx hb dX7_draws_29 (by decide) (fun c9 => ?_) (fun c9 => ?_)
      · have h := ifn c9 h
        refine lv_iconst (v := 0) hx hb dX7_draws_36 (by decide) ?_
        refine lv_istore (lv' := [(4, .int 0), (0, .ref aM), (1, .int p0), (2, .int p1), (3, .int p2)]) hx hb dX7_draws_37 hl (by decide) rfl (fun ls hl => ?_)
        exact hC39 FU 0 M_cases M_next p0 p1 p2 0 _ _ _ h hP hD hS (lv_sub hl [1, 2, 3, 4, 0] rfl)
      · have h := ift c9 h
        refine lv_ldc2 hx hb hown k_3 dX7_draws_32 ?_
        obtain ⟨rfl, rfl, rfl, rfl⟩ := sj4 h
        exact hret _ _ _ _ _ rfl hP hD hS dX7_draws_35
