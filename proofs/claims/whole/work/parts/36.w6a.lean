set_option maxHeartbeats 4000000 in
set_option maxRecDepth 100000 in
theorem c_X6_isSheet (l : Launch) (dC : Nat → ClassId) (dI : Nat → Nat → Nat) (cI cJ cZ cA : ClassId) (p0 : Int32) (rr : Int32) (h : fX6_isSheet p0 = some rr) : Cti l yX6_isSheet wsX6_isSheet rmX6_isSheet (dC, dI) (tyL cI cJ cZ cA) [] [] [.int p0] rr := by
  refine ct_int (ty := .boolean) (cc := cX6_isSheet) (maxL := 1) (by decide) rfl (Nat.le_of_ble_eq_true rfl) ?_
  intro p e s m args below meth c A Q ls hx hb hml hown hts hA hK hP hD hS hl hret
  have hl : lv_has ls 1 [(0, .int p0)] := hl
  unfold fX6_isSheet at h
  refine lv_iload_n hx hb dX6_isSheet_0 rfl (lv_at hl 0 rfl) ?_
  refine lv_if_lt (tgt := 14) hx hb dX6_isSheet_1 (by decide) (fun c1 => ?_) (fun c1 => ?_)
  · have h := ift c1 h
    refine lv_iconst (v := 0) hx hb dX6_isSheet_14 (by decide) ?_
    obtain rfl := sj1 h
    exact hret _ _ _ _ _ rfl rfl hP hD hS dX6_isSheet_15
  · have h := ifn c1 h
    refine lv_iload_n hx hb dX6_isSheet_4 rfl (lv_at hl 0 rfl) ?_
    refine lv_bipush (v := 8) hx hb dX6_isSheet_5 (by decide) ?_
    refine lv_icmp_ge (tgt := 14) hx hb dX6_isSheet_7 (by decide) (fun c2 => ?_) (fun c2 => ?_)
    · have h := ift c2 h
      refine lv_iconst (v := 0) hx hb dX6_isSheet_14 (by decide) ?_
      obtain rfl := sj1 h
      exact hret _ _ _ _ _ rfl rfl hP hD hS dX6_isSheet_15
    · have h := ifn c2 h
      refine lv_iconst (v := 1) hx hb dX6_isSheet_10 (by decide) ?_
      refine lv_goto (tgt := 15) hx hb dX6_isSheet_11 (by decide) ?_
      obtain rfl := sj1 h
      exact hret _ _ _ _ _ rfl rfl hP hD hS dX6_isSheet_15
set_option maxHeartbeats 4000000 in
set_option maxRecDepth 100000 in
theorem c_X6_sheet (l : Launch) (dC : Nat → ClassId) (dI : Nat → Nat → Nat) (cI cJ cZ cA : ClassId) (aB aS aN aR aT aQ aK aS_lanes aS_sizes aS_items : Nat) (rA : Nat → Nat) (B_latestFinding : Int32) (B_latestFault : Int32) (S_lanes : Nat → Int32) (S_sizes : Nat → Int32) (S_rows : Nat → Nat → Int32) (p0 : Int32) (p1 : Int32) (p2 : Int32) (rr : Int32) (B_latestFinding_z : Int32) (S_lanes_z : Nat → Int32) (S_sizes_z : Nat → Int32) (S_rows_z : Nat → Nat → Int32) (h : fX6_sheet B_latestFinding S_lanes S_sizes S_rows p0 p1 p2 = some (rr, B_latestFinding_z, S_lanes_z, S_sizes_z, S_rows_z)) : Cti l yX6_sheet wsX6_sheet rmX6_sheet (dC, dI) (tyL cI cJ cZ cA) [(aB, .inr (6, [.ref aS, .ref aN, .ref aR, .ref aT, .ref aQ, .ref aK, .int B_latestFinding, .int B_latestFault])), (aS, .inr (4, [.ref aS_lanes, .ref aS_sizes, .ref aS_items])), (aS_lanes, .inl (cI, 8, .inl S_lanes)), (aS_sizes, .inl (cI, 8, .inl S_sizes)), (aS_items, .inl (cA, 8, .inr (.inr (.inr (.inr (rwA rA)))))), (rA 0, .inl (cI, 40, .inl (S_rows 0))), (rA 1, .inl (cI, 40, .inl (S_rows 1))), (rA 2, .inl (cI, 40, .inl (S_rows 2))), (rA 3, .inl (cI, 40, .inl (S_rows 3))), (rA 4, .inl (cI, 40, .inl (S_rows 4))), (rA 5, .inl (cI, 40, .inl (S_rows 5))), (rA 6, .inl (cI, 40, .inl (S_rows 6))), (rA 7, .inl (cI, 40, .inl (S_rows 7)))] [(aB, .inr (6, [.ref aS, .ref aN, .ref aR, .ref aT, .ref aQ, .ref aK, .int B_latestFinding_z, .int B_latestFault])), (aS, .inr (4, [.ref aS_lanes, .ref aS_sizes, .ref aS_items])), (aS_lanes, .inl (cI, 8, .inl S_lanes_z)), (aS_sizes, .inl (cI, 8, .inl S_sizes_z)), (aS_items, .inl (cA, 8, .inr (.inr (.inr (.inr (rwA rA)))))), (rA 0, .inl (cI, 40, .inl (S_rows_z 0))), (rA 1, .inl (cI, 40, .inl (S_rows_z 1))), (rA 2, .inl (cI, 40, .inl (S_rows_z 2))), (rA 3, .inl (cI, 40, .inl (S_rows_z 3))), (rA 4, .inl (cI, 40, .inl (S_rows_z 4))), (rA 5, .inl (cI, 40, .inl (S_rows_z 5))), (rA 6, .inl (cI, 40, .inl (S_rows_z 6))), (rA 7, .inl (cI, 40, .inl (S_rows_z 7)))] [.ref aB, .int p0, .int p1, .int p2] rr := by
  refine ct_int (ty := .int) (cc := cX6_sheet) (maxL := 4) (by decide) rfl (Nat.le_of_ble_eq_true rfl) ?_
  intro p e s m args below meth c A Q ls hx hb hml hown hts hA hK hP hD hS hl hret
  have hl : lv_has ls 4 [(0, .ref aB), (1, .int p0), (2, .int p1), (3, .int p2)] := hl
  have k_0 := hts (.fieldLink RX6 58 "BeepNet" "latestFinding" "I") (by decide +kernel)
  have k_1 := hts (.fieldLink RX6 10 "BeepNet" "sheets" "LBeepNet$Sheets;") (by decide +kernel)
  have k_2 := hts (.constant RX6 62 (-1000010)) (by decide +kernel)
  have k_3 := hts (.constant RX6 57 (-1000001)) (by decide +kernel)
  have hiX6 : ∀ w ∈ u_ws RX6 TX6 8, w ∈ wsX6_sheet := fun w hw => List.mem_cons_of_mem _ (List.mem_append_left _ (List.mem_append_right _ hw))
  have hC35 : ∀ (B_latestFinding : Int32) (S_lanes : Nat → Int32) (S_sizes : Nat → Int32) (S_rows : Nat → Nat → Int32) (x1 : Int32) (x2 : Int32) (x3 : Int32) (t1 : Int32) (H : Heap) (locs : List Loc) (ls : Array Slot), fX6_sheet_c35 B_latestFinding S_lanes S_sizes S_rows x1 x2 x3 t1 = some (rr, B_latestFinding_z, S_lanes_z, S_sizes_z, S_rows_z) → va_P (dC, dI) vwCl [(aB, .inr (6, [.ref aS, .ref aN, .ref aR, .ref aT, .ref aQ, .ref aK, .int B_latestFinding, .int B_latestFault])), (aS, .inr (4, [.ref aS_lanes, .ref aS_sizes, .ref aS_items])), (aS_lanes, .inl (cI, 8, .inl S_lanes)), (aS_sizes, .inl (cI, 8, .inl S_sizes)), (aS_items, .inl (cA, 8, .inr (.inr (.inr (.inr (rwA rA)))))), (rA 0, .inl (cI, 40, .inl (S_rows 0))), (rA 1, .inl (cI, 40, .inl (S_rows 1))), (rA 2, .inl (cI, 40, .inl (S_rows 2))), (rA 3, .inl (cI, 40, .inl (S_rows 3))), (rA 4, .inl (cI, 40, .inl (S_rows 4))), (rA 5, .inl (cI, 40, .inl (S_rows 5))), (rA 6, .inl (cI, 40, .inl (S_rows 6))), (rA 7, .inl (cI, 40, .inl (S_rows 7)))] H → va_D A [(aB, .inr (6, [.ref aS, .ref aN, .ref aR, .ref aT, .ref aQ, .ref aK, .int B_latestFinding, .int B_latestFault])), (aS, .inr (4, [.ref aS_lanes, .ref aS_sizes, .ref aS_items])), (aS_lanes, .inl (cI, 8, .inl S_lanes)), (aS_sizes, .inl (cI, 8, .inl S_sizes)), (aS_items, .inl (cA, 8, .inr (.inr (.inr (.inr (rwA rA)))))), (rA 0, .inl (cI, 40, .inl (S_rows 0))), (rA 1, .inl (cI, 40, .inl (S_rows 1))), (rA 2, .inl (cI, 40, .inl (S_rows 2))), (rA 3, .inl (cI, 40, .inl (S_rows 3))), (rA 4, .inl (cI, 40, .inl (S_rows 4))), (rA 5, .inl (cI, 40, .inl (S_rows 5))), (rA 6, .inl (cI, 40, .inl (S_rows 6))), (rA 7, .inl (cI, 40, .inl (S_rows 7)))] → va_S A s.heap H locs → lv_has ls 4 [(0, .ref aB), (1, .int x1), (2, .int x2), (3, .int x3)] → W p l e rmX6_sheet s m args below meth c H locs 0 0 Q (F0 m 35 ls [.int t1, .ref aB]) := by
    intro B_latestFinding S_lanes S_sizes S_rows x1 x2 x3 t1 H locs ls h hP hD hS hl
    unfold fX6_sheet_c35 at h
    refine ka_put (w1 := [(aB, .inr (6, [.ref aS, .ref aN, .ref aR, .ref aT, .ref aQ, .ref aK, .int t1, .int B_latestFault])), (aS, .inr (4, [.ref aS_lanes, .ref aS_sizes, .ref aS_items])), (aS_lanes, .inl (cI, 8, .inl S_lanes)), (aS_sizes, .inl (cI, 8, .inl S_sizes)), (aS_items, .inl (cA, 8, .inr (.inr (.inr (.inr (rwA rA)))))), (rA 0, .inl (cI, 40, .inl (S_rows 0))), (rA 1, .inl (cI, 40, .inl (S_rows 1))), (rA 2, .inl (cI, 40, .inl (S_rows 2))), (rA 3, .inl (cI, 40, .inl (S_rows 3))), (rA 4, .inl (cI, 40, .inl (S_rows 4))), (rA 5, .inl (cI, 40, .inl (S_rows 5))), (rA 6, .inl (cI, 40, .inl (S_rows 6))), (rA 7, .inl (cI, 40, .inl (S_rows 7)))]) (C := RX6) (T := TX6) (Nf := 8) (ref := "BeepNet") hx hb hts hiX6 tyX6 tyX6_ok nmX6 hown hK hP hD hS 0 rfl rfl 6 (by decide) k_0 rfl rfl rfl (Nat.le_of_ble_eq_true rfl) dX6_sheet_35 rfl (fun H locs hP hD hS => ?_)
    refine lv_aload_n hx hb dX6_sheet_38 rfl (lv_at hl 0 rfl) ?_
    refine ka_get (v := .int t1) (C := RX6) (T := TX6) (Nf := 8) (ref := "BeepNet") hx hb hts hiX6 hown hK hP 0 rfl rfl 6 (by decide) k_0 rfl rfl dX6_sheet_39 ?_
    refine lv_if_eq (tgt := 53) hx hb dX6_sheet_42 (by decide) (fun c3601 => ?_) (fun c3601 => ?_)
    · have h := ift c3601 h
      refine lv_aload_n hx hb dX6_sheet_53 rfl (lv_at hl 0 rfl) ?_
      refine ka_get (v := .ref aS) (C := RX6) (T := TX6) (Nf := 8) (ref := "BeepNet") hx hb hts hiX6 hown hK hP 0 rfl rfl 0 (by decide) k_1 rfl rfl dX6_sheet_54 ?_
      refine lv_iload_n hx hb dX6_sheet_57 rfl (lv_at hl 1 rfl) ?_
      refine lv_iload_n hx hb dX6_sheet_58 rfl (lv_at hl 2 rfl) ?_
      refine lv_iload_n hx hb dX6_sheet_59 rfl (lv_at hl 3 rfl) ?_
      obtain ⟨S_lanes_3602, S_sizes_3603, S_rows_3604, e3605, h⟩ := bd3_s h
      refine kc_vv (rest := []) (wr := [(aB, .inr (6, [.ref aS, .ref aN, .ref aR, .ref aT, .ref aQ, .ref aK, .int t1, .int B_latestFault]))]) (wF := [(aB, .inr (6, [.ref aS, .ref aN, .ref aR, .ref aT, .ref aQ, .ref aK, .int t1, .int B_latestFault])), (aS, .inr (4, [.ref aS_lanes, .ref aS_sizes, .ref aS_items])), (aS_lanes, .inl (cI, 8, .inl S_lanes_3602)), (aS_sizes, .inl (cI, 8, .inl S_sizes_3603)), (aS_items, .inl (cA, 8, .inr (.inr (.inr (.inr (rwA rA)))))), (rA 0, .inl (cI, 40, .inl (S_rows_3604 0))), (rA 1, .inl (cI, 40, .inl (S_rows_3604 1))), (rA 2, .inl (cI, 40, .inl (S_rows_3604 2))), (rA 3, .inl (cI, 40, .inl (S_rows_3604 3))), (rA 4, .inl (cI, 40, .inl (S_rows_3604 4))), (rA 5, .inl (cI, 40, .inl (S_rows_3604 5))), (rA 6, .inl (cI, 40, .inl (S_rows_3604 6))), (rA 7, .inl (cI, 40, .inl (S_rows_3604 7)))]) ⟨hx, hb, hml, hown, hts⟩ (c_X4_begin l dC dI cI cJ cZ cA aS aS_lanes aS_sizes aS_items rA S_lanes S_sizes S_rows x1 x2 x3 S_lanes_3602 S_sizes_3603 S_rows_3604 e3605) (cwV 3 hts gX6_sheet_X4_begin rfl rfl rfl (by decide +kernel) ⟨Nat.le_of_ble_eq_true rfl, Nat.le_of_ble_eq_true rfl⟩) hK hP hD hS hA [1, 2, 3, 4, 5, 6, 7, 8, 9, 10, 11, 12] [0] [0, 1, 2, 3, 4, 5, 6, 7, 8, 9, 10, 11, 12] 0 rfl rfl rfl rfl (by decide) rfl rfl rfl rfl rfl rfl hl.1 rfl (Nat.le_of_ble_eq_true rfl) dX6_sheet_60 ⟨Nat.zero_le _, Nat.zero_le _⟩ (fun H locs hP hD hS => ?_)
      refine lv_iload_n hx hb dX6_sheet_63 rfl (lv_at hl 3 rfl) ?_
      obtain ⟨rfl, rfl, rfl, rfl, rfl⟩ := sj5 h
      exact hret _ _ _ _ _ rfl rfl hP hD hS dX6_sheet_64
    · have h := ifn c3601 h
      refine lv_ldc hx hb hown k_2 dX6_sheet_45 ?_
      refine lv_aload_n hx hb dX6_sheet_47 rfl (lv_at hl 0 rfl) ?_
      refine ka_get (v := .int t1) (C := RX6) (T := TX6) (Nf := 8) (ref := "BeepNet") hx hb hts hiX6 hown hK hP 0 rfl rfl 6 (by decide) k_0 rfl rfl dX6_sheet_48 ?_
      refine lv_isub hx hb dX6_sheet_51 ?_
      obtain ⟨rfl, rfl, rfl, rfl, rfl⟩ := sj5 h
      exact hret _ _ _ _ _ rfl rfl hP hD hS dX6_sheet_52
  unfold fX6_sheet at h
  refine lv_iload_n hx hb dX6_sheet_0 rfl (lv_at hl 1 rfl) ?_
  obtain ⟨r1, e2, h⟩ := bd1_s h
  refine kc_si (rest := []) (wr := [(aB, .inr (6, [.ref aS, .ref aN, .ref aR, .ref aT, .ref aQ, .ref aK, .int B_latestFinding, .int B_latestFault])), (aS, .inr (4, [.ref aS_lanes, .ref aS_sizes, .ref aS_items])), (aS_lanes, .inl (cI, 8, .inl S_lanes)), (aS_sizes, .inl (cI, 8, .inl S_sizes)), (aS_items, .inl (cA, 8, .inr (.inr (.inr (.inr (rwA rA)))))), (rA 0, .inl (cI, 40, .inl (S_rows 0))), (rA 1, .inl (cI, 40, .inl (S_rows 1))), (rA 2, .inl (cI, 40, .inl (S_rows 2))), (rA 3, .inl (cI, 40, .inl (S_rows 3))), (rA 4, .inl (cI, 40, .inl (S_rows 4))), (rA 5, .inl (cI, 40, .inl (S_rows 5))), (rA 6, .inl (cI, 40, .inl (S_rows 6))), (rA 7, .inl (cI, 40, .inl (S_rows 7)))]) (wF := [(aB, .inr (6, [.ref aS, .ref aN, .ref aR, .ref aT, .ref aQ, .ref aK, .int B_latestFinding, .int B_latestFault])), (aS, .inr (4, [.ref aS_lanes, .ref aS_sizes, .ref aS_items])), (aS_lanes, .inl (cI, 8, .inl S_lanes)), (aS_sizes, .inl (cI, 8, .inl S_sizes)), (aS_items, .inl (cA, 8, .inr (.inr (.inr (.inr (rwA rA)))))), (rA 0, .inl (cI, 40, .inl (S_rows 0))), (rA 1, .inl (cI, 40, .inl (S_rows 1))), (rA 2, .inl (cI, 40, .inl (S_rows 2))), (rA 3, .inl (cI, 40, .inl (S_rows 3))), (rA 4, .inl (cI, 40, .inl (S_rows 4))), (rA 5, .inl (cI, 40, .inl (S_rows 5))), (rA 6, .inl (cI, 40, .inl (S_rows 6))), (rA 7, .inl (cI, 40, .inl (S_rows 7)))]) ⟨hx, hb, hml, hown, hts⟩ (c_X6_isSheet l dC dI cI cJ cZ cA p0 r1 e2) (va_cwS 1 hts gX6_sheet_X6_isSheet rfl rfl rfl (by decide +kernel) ⟨Nat.le_of_ble_eq_true rfl, Nat.le_of_ble_eq_true rfl⟩) hK hP hD hS hA [] [0, 1, 2, 3, 4, 5, 6, 7, 8, 9, 10, 11, 12] [0, 1, 2, 3, 4, 5, 6, 7, 8, 9, 10, 11, 12] rfl rfl rfl rfl (by decide) rfl rfl rfl hl.1 rfl (Nat.le_of_ble_eq_true rfl) dX6_sheet_1 ⟨Nat.zero_le _, Nat.zero_le _⟩ (fun H locs hP hD hS => ?_)
  refine lv_if_eq (tgt := 22) hx hb dX6_sheet_4 (by decide) (fun c3 => ?_) (fun c3 => ?_)
  · have h := ift c3 h
    refine lv_ldc hx hb hown k_3 dX6_sheet_22 ?_
    obtain ⟨rfl, rfl, rfl, rfl, rfl⟩ := sj5 h
    exact hret _ _ _ _ _ rfl rfl hP hD hS dX6_sheet_24
  · have h := ifn c3 h
    refine lv_iload_n hx hb dX6_sheet_7 rfl (lv_at hl 2 rfl) ?_
    refine lv_if_lt (tgt := 22) hx hb dX6_sheet_8 (by decide) (fun c4 => ?_) (fun c4 => ?_)
    · have h := ift c4 h
      refine lv_ldc hx hb hown k_3 dX6_sheet_22 ?_
      obtain ⟨rfl, rfl, rfl, rfl, rfl⟩ := sj5 h
      exact hret _ _ _ _ _ rfl rfl hP hD hS dX6_sheet_24
    · have h := ifn c4 h
      refine lv_iload_n hx hb dX6_sheet_11 rfl (lv_at hl 2 rfl) ?_
      refine lv_iconst (v := 3) hx hb dX6_sheet_12 (by decide) ?_
      refine lv_icmp_ge (tgt := 22) hx hb dX6_sheet_13 (by decide) (fun c5 => ?_) (fun c5 => ?_)
      · have h := ift c5 h
        refine lv_ldc hx hb hown k_3 dX6_sheet_22 ?_
        obtain ⟨rfl, rfl, rfl, rfl, rfl⟩ := sj5 h
        exact hret _ _ _ _ _ rfl rfl hP hD hS dX6_sheet_24
      · have h := ifn c5 h
        refine lv_iload_n hx hb dX6_sheet_16 rfl (lv_at hl 3 rfl) ?_
        refine lv_bipush (v := 40) hx hb dX6_sheet_17 (by decide) ?_
        refine lv_icmp_le (tgt := 25) hx hb dX6_sheet_19 (by decide) (fun c6 => ?_) (fun c6 => ?_)
        · have h := ift c6 h
          refine lv_aload_n hx hb dX6_sheet_25 rfl (lv_at hl 0 rfl) ?_
          refine lv_iload_n hx hb dX6_sheet_26 rfl (lv_at hl 3 rfl) ?_
          refine lv_if_ge (tgt := 34) hx hb dX6_sheet_27 (by decide) (fun c7 => ?_) (fun c7 => ?_)
          · have h := ift c7 h
            refine lv_iconst (v := 0) hx hb dX6_sheet_34 (by decide) ?_
            exact hC35 B_latestFinding S_lanes S_sizes S_rows p0 p1 p2 0 _ _ _ h hP hD hS (lv_sub hl [0, 1, 2, 3] rfl)
          · have h := ifn c7 h
            refine lv_iconst (v := 4) hx hb dX6_sheet_30 (by decide) ?_
            refine lv_goto (tgt := 35) hx hb dX6_sheet_31 (by decide) ?_
            exact hC35 B_latestFinding S_lanes S_sizes S_rows p0 p1 p2 4 _ _ _ h hP hD hS (lv_sub hl [0, 1, 2, 3] rfl)
        · have h := ifn c6 h
          refine lv_ldc hx hb hown k_3 dX6_sheet_22 ?_
          obtain ⟨rfl, rfl, rfl, rfl, rfl⟩ := sj5 h
          exact hret _ _ _ _ _ rfl rfl hP hD hS dX6_sheet_24
set_option maxHeartbeats 4000000 in
set_option maxRecDepth 100000 in
theorem c_X6_set (l : Launch) (dC : Nat → ClassId) (dI : Nat → Nat → Nat) (cI cJ cZ cA : ClassId) (aB aS aN aR aT aQ aK aS_lanes aS_sizes aS_items : Nat) (rA : Nat → Nat) (B_latestFinding : Int32) (B_latestFault : Int32) (S_lanes : Nat → Int32) (S_sizes : Nat → Int32) (S_rows : Nat → Nat → Int32) (p0 : Int32) (p1 : Int32) (p2 : Int32) (rr : Int32) (B_latestFinding_z : Int32) (S_rows_z : Nat → Nat → Int32) (h : fX6_set B_latestFinding S_lanes S_sizes S_rows p0 p1 p2 = some (rr, B_latestFinding_z, S_rows_z)) : Cti l yX6_set wsX6_set rmX6_set (dC, dI) (tyL cI cJ cZ cA) [(aB, .inr (6, [.ref aS, .ref aN, .ref aR, .ref aT, .ref aQ, .ref aK, .int B_latestFinding, .int B_latestFault])), (aS, .inr (4, [.ref aS_lanes, .ref aS_sizes, .ref aS_items])), (aS_lanes, .inl (cI, 8, .inl S_lanes)), (aS_sizes, .inl (cI, 8, .inl S_sizes)), (aS_items, .inl (cA, 8, .inr (.inr (.inr (.inr (rwA rA)))))), (rA 0, .inl (cI, 40, .inl (S_rows 0))), (rA 1, .inl (cI, 40, .inl (S_rows 1))), (rA 2, .inl (cI, 40, .inl (S_rows 2))), (rA 3, .inl (cI, 40, .inl (S_rows 3))), (rA 4, .inl (cI, 40, .inl (S_rows 4))), (rA 5, .inl (cI, 40, .inl (S_rows 5))), (rA 6, .inl (cI, 40, .inl (S_rows 6))), (rA 7, .inl (cI, 40, .inl (S_rows 7)))] [(aB, .inr (6, [.ref aS, .ref aN, .ref aR, .ref aT, .ref aQ, .ref aK, .int B_latestFinding_z, .int B_latestFault])), (aS, .inr (4, [.ref aS_lanes, .ref aS_sizes, .ref aS_items])), (aS_lanes, .inl (cI, 8, .inl S_lanes)), (aS_sizes, .inl (cI, 8, .inl S_sizes)), (aS_items, .inl (cA, 8, .inr (.inr (.inr (.inr (rwA rA)))))), (rA 0, .inl (cI, 40, .inl (S_rows_z 0))), (rA 1, .inl (cI, 40, .inl (S_rows_z 1))), (rA 2, .inl (cI, 40, .inl (S_rows_z 2))), (rA 3, .inl (cI, 40, .inl (S_rows_z 3))), (rA 4, .inl (cI, 40, .inl (S_rows_z 4))), (rA 5, .inl (cI, 40, .inl (S_rows_z 5))), (rA 6, .inl (cI, 40, .inl (S_rows_z 6))), (rA 7, .inl (cI, 40, .inl (S_rows_z 7)))] [.ref aB, .int p0, .int p1, .int p2] rr := by
  refine ct_int (ty := .int) (cc := cX6_set) (maxL := 4) (by decide) rfl (Nat.le_of_ble_eq_true rfl) ?_
  intro p e s m args below meth c A Q ls hx hb hml hown hts hA hK hP hD hS hl hret
  have hl : lv_has ls 4 [(0, .ref aB), (1, .int p0), (2, .int p1), (3, .int p2)] := hl
  have k_0 := hts (.fieldLink RX6 10 "BeepNet" "sheets" "LBeepNet$Sheets;") (by decide +kernel)
  have k_1 := hts (.fieldLink RX6 58 "BeepNet" "latestFinding" "I") (by decide +kernel)
  have k_2 := hts (.constant RX6 62 (-1000010)) (by decide +kernel)
  have k_3 := hts (.constant RX6 57 (-1000001)) (by decide +kernel)
  have hiX6 : ∀ w ∈ u_ws RX6 TX6 8, w ∈ wsX6_set := fun w hw => List.mem_cons_of_mem _ (List.mem_append_left _ (List.mem_append_right _ hw))
  unfold fX6_set at h
  refine lv_iload_n hx hb dX6_set_0 rfl (lv_at hl 1 rfl) ?_
  obtain ⟨r1, e2, h⟩ := bd1_s h
  refine kc_si (rest := []) (wr := [(aB, .inr (6, [.ref aS, .ref aN, .ref aR, .ref aT, .ref aQ, .ref aK, .int B_latestFinding, .int B_latestFault])), (aS, .inr (4, [.ref aS_lanes, .ref aS_sizes, .ref aS_items])), (aS_lanes, .inl (cI, 8, .inl S_lanes)), (aS_sizes, .inl (cI, 8, .inl S_sizes)), (aS_items, .inl (cA, 8, .inr (.inr (.inr (.inr (rwA rA)))))), (rA 0, .inl (cI, 40, .inl (S_rows 0))), (rA 1, .inl (cI, 40, .inl (S_rows 1))), (rA 2, .inl (cI, 40, .inl (S_rows 2))), (rA 3, .inl (cI, 40, .inl (S_rows 3))), (rA 4, .inl (cI, 40, .inl (S_rows 4))), (rA 5, .inl (cI, 40, .inl (S_rows 5))), (rA 6, .inl (cI, 40, .inl (S_rows 6))), (rA 7, .inl (cI, 40, .inl (S_rows 7)))]) (wF := [(aB, .inr (6, [.ref aS, .ref aN, .ref aR, .ref aT, .ref aQ, .ref aK, .int B_latestFinding, .int B_latestFault])), (aS, .inr (4, [.ref aS_lanes, .ref aS_sizes, .ref aS_items])), (aS_lanes, .inl (cI, 8, .inl S_lanes)), (aS_sizes, .inl (cI, 8, .inl S_sizes)), (aS_items, .inl (cA, 8, .inr (.inr (.inr (.inr (rwA rA)))))), (rA 0, .inl (cI, 40, .inl (S_rows 0))), (rA 1, .inl (cI, 40, .inl (S_rows 1))), (rA 2, .inl (cI, 40, .inl (S_rows 2))), (rA 3, .inl (cI, 40, .inl (S_rows 3))), (rA 4, .inl (cI, 40, .inl (S_rows 4))), (rA 5, .inl (cI, 40, .inl (S_rows 5))), (rA 6, .inl (cI, 40, .inl (S_rows 6))), (rA 7, .inl (cI, 40, .inl (S_rows 7)))]) ⟨hx, hb, hml, hown, hts⟩ (c_X6_isSheet l dC dI cI cJ cZ cA p0 r1 e2) (va_cwS 1 hts gX6_set_X6_isSheet rfl rfl rfl (by decide +kernel) ⟨Nat.le_of_ble_eq_true rfl, Nat.le_of_ble_eq_true rfl⟩) hK hP hD hS hA [] [0, 1, 2, 3, 4, 5, 6, 7, 8, 9, 10, 11, 12] [0, 1, 2, 3, 4, 5, 6, 7, 8, 9, 10, 11, 12] rfl rfl rfl rfl (by decide) rfl rfl rfl hl.1 rfl (Nat.le_of_ble_eq_true rfl) dX6_set_1 ⟨Nat.zero_le _, Nat.zero_le _⟩ (fun H locs hP hD hS => ?_)
  refine lv_if_ne (tgt := 10) hx hb dX6_set_4 (by decide) (fun c3 => ?_) (fun c3 => ?_)
  · have h := ifn c3 h
    refine lv_aload_n hx hb dX6_set_10 rfl (lv_at hl 0 rfl) ?_
    refine lv_aload_n hx hb dX6_set_11 rfl (lv_at hl 0 rfl) ?_
    refine ka_get (v := .ref aS) (C := RX6) (T := TX6) (Nf := 8) (ref := "BeepNet") hx hb hts hiX6 hown hK hP 0 rfl rfl 0 (by decide) k_0 rfl rfl dX6_set_12 ?_
    refine lv_iload_n hx hb dX6_set_15 rfl (lv_at hl 1 rfl) ?_
    refine lv_iload_n hx hb dX6_set_16 rfl (lv_at hl 2 rfl) ?_
    refine lv_iconst (v := 1) hx hb dX6_set_17 (by decide) ?_
    obtain ⟨r4, e5, h⟩ := bd1_s h
    refine kc_vi (rest := [.ref aB]) (wr := [(aB, .inr (6, [.ref aS, .ref aN, .ref aR, .ref aT, .ref aQ, .ref aK, .int B_latestFinding, .int B_latestFault])), (aS_items, .inl (cA, 8, .inr (.inr (.inr (.inr (rwA rA)))))), (rA 0, .inl (cI, 40, .inl (S_rows 0))), (rA 1, .inl (cI, 40, .inl (S_rows 1))), (rA 2, .inl (cI, 40, .inl (S_rows 2))), (rA 3, .inl (cI, 40, .inl (S_rows 3))), (rA 4, .inl (cI, 40, .inl (S_rows 4))), (rA 5, .inl (cI, 40, .inl (S_rows 5))), (rA 6, .inl (cI, 40, .inl (S_rows 6))), (rA 7, .inl (cI, 40, .inl (S_rows 7)))]) (wF := [(aB, .inr (6, [.ref aS, .ref aN, .ref aR, .ref aT, .ref aQ, .ref aK, .int B_latestFinding, .int B_latestFault])), (aS, .inr (4, [.ref aS_lanes, .ref aS_sizes, .ref aS_items])), (aS_lanes, .inl (cI, 8, .inl S_lanes)), (aS_sizes, .inl (cI, 8, .inl S_sizes)), (aS_items, .inl (cA, 8, .inr (.inr (.inr (.inr (rwA rA)))))), (rA 0, .inl (cI, 40, .inl (S_rows 0))), (rA 1, .inl (cI, 40, .inl (S_rows 1))), (rA 2, .inl (cI, 40, .inl (S_rows 2))), (rA 3, .inl (cI, 40, .inl (S_rows 3))), (rA 4, .inl (cI, 40, .inl (S_rows 4))), (rA 5, .inl (cI, 40, .inl (S_rows 5))), (rA 6, .inl (cI, 40, .inl (S_rows 6))), (rA 7, .inl (cI, 40, .inl (S_rows 7)))]) ⟨hx, hb, hml, hown, hts⟩ (c_X4_findPlaces l dC dI cI cJ cZ cA aS aS_lanes aS_sizes aS_items S_lanes S_sizes p0 p1 1 r4 e5) (cwV 3 hts gX6_set_X4_findPlaces rfl rfl rfl (by decide +kernel) ⟨Nat.le_of_ble_eq_true rfl, Nat.le_of_ble_eq_true rfl⟩) hK hP hD hS hA [1, 2, 3] [0, 4, 5, 6, 7, 8, 9, 10, 11, 12] [0, 10, 11, 12, 1, 2, 3, 4, 5, 6, 7, 8, 9] 0 rfl rfl rfl rfl (by decide) rfl rfl rfl rfl rfl rfl hl.1 rfl (Nat.le_of_ble_eq_true rfl) dX6_set_18 ⟨Nat.zero_le _, Nat.zero_le _⟩ (fun H locs hP hD hS => ?_)
    refine ka_put (w1 := [(aB, .inr (6, [.ref aS, .ref aN, .ref aR, .ref aT, .ref aQ, .ref aK, .int r4, .int B_latestFault])), (aS, .inr (4, [.ref aS_lanes, .ref aS_sizes, .ref aS_items])), (aS_lanes, .inl (cI, 8, .inl S_lanes)), (aS_sizes, .inl (cI, 8, .inl S_sizes)), (aS_items, .inl (cA, 8, .inr (.inr (.inr (.inr (rwA rA)))))), (rA 0, .inl (cI, 40, .inl (S_rows 0))), (rA 1, .inl (cI, 40, .inl (S_rows 1))), (rA 2, .inl (cI, 40, .inl (S_rows 2))), (rA 3, .inl (cI, 40, .inl (S_rows 3))), (rA 4, .inl (cI, 40, .inl (S_rows 4))), (rA 5, .inl (cI, 40, .inl (S_rows 5))), (rA 6, .inl (cI, 40, .inl (S_rows 6))), (rA 7, .inl (cI, 40, .inl (S_rows 7)))]) (C := RX6) (T := TX6) (Nf := 8) (ref := "BeepNet") hx hb hts hiX6 tyX6 tyX6_ok nmX6 hown hK hP hD hS 0 rfl rfl 6 (by decide) k_1 rfl rfl rfl (Nat.le_of_ble_eq_true rfl) dX6_set_21 rfl (fun H locs hP hD hS => ?_)
    refine lv_aload_n hx hb dX6_set_24 rfl (lv_at hl 0 rfl) ?_
    refine ka_get (v := .int r4) (C := RX6) (T := TX6) (Nf := 8) (ref := "BeepNet") hx hb hts hiX6 hown hK hP 0 rfl rfl 6 (by decide) k_1 rfl rfl dX6_set_25 ?_
    refine lv_if_eq (tgt := 41) hx hb dX6_set_28 (by decide) (fun c6 => ?_) (fun c6 => ?_)
    · have h := ift c6 h
      refine lv_aload_n hx hb dX6_set_41 rfl (lv_at hl 0 rfl) ?_
      refine ka_get (v := .ref aS) (C := RX6) (T := TX6) (Nf := 8) (ref := "BeepNet") hx hb hts hiX6 hown hK hP 0 rfl rfl 0 (by decide) k_0 rfl rfl dX6_set_42 ?_
      refine lv_iload_n hx hb dX6_set_45 rfl (lv_at hl 1 rfl) ?_
      refine lv_iload_n hx hb dX6_set_46 rfl (lv_at hl 2 rfl) ?_
      refine lv_iload_n hx hb dX6_set_47 rfl (lv_at hl 3 rfl) ?_
      obtain ⟨r7, S_rows_8, e9, h⟩ := bd2_s h
      refine kc_vi (rest := []) (wr := [(aB, .inr (6, [.ref aS, .ref aN, .ref aR, .ref aT, .ref aQ, .ref aK, .int r4, .int B_latestFault])), (aS_sizes, .inl (cI, 8, .inl S_sizes))]) (wF := [(aB, .inr (6, [.ref aS, .ref aN, .ref aR, .ref aT, .ref aQ, .ref aK, .int r4, .int B_latestFault])), (aS, .inr (4, [.ref aS_lanes, .ref aS_sizes, .ref aS_items])), (aS_lanes, .inl (cI, 8, .inl S_lanes)), (aS_sizes, .inl (cI, 8, .inl S_sizes)), (aS_items, .inl (cA, 8, .inr (.inr (.inr (.inr (rwA rA)))))), (rA 0, .inl (cI, 40, .inl (S_rows_8 0))), (rA 1, .inl (cI, 40, .inl (S_rows_8 1))), (rA 2, .inl (cI, 40, .inl (S_rows_8 2))), (rA 3, .inl (cI, 40, .inl (S_rows_8 3))), (rA 4, .inl (cI, 40, .inl (S_rows_8 4))), (rA 5, .inl (cI, 40, .inl (S_rows_8 5))), (rA 6, .inl (cI, 40, .inl (S_rows_8 6))), (rA 7, .inl (cI, 40, .inl (S_rows_8 7)))]) ⟨hx, hb, hml, hown, hts⟩ (c_X4_put l dC dI cI cJ cZ cA aS aS_lanes aS_sizes aS_items rA S_lanes S_rows p0 p1 p2 r7 S_rows_8 e9) (cwV 3 hts gX6_set_X4_put rfl rfl rfl (by decide +kernel) ⟨Nat.le_of_ble_eq_true rfl, Nat.le_of_ble_eq_true rfl⟩) hK hP hD hS hA [1, 2, 4, 5, 6, 7, 8, 9, 10, 11, 12] [0, 3] [0, 2, 3, 1, 4, 5, 6, 7, 8, 9, 10, 11, 12] 0 rfl rfl rfl rfl (by decide) rfl rfl rfl rfl rfl rfl hl.1 rfl (Nat.le_of_ble_eq_true rfl) dX6_set_48 ⟨Nat.zero_le _, Nat.zero_le _⟩ (fun H locs hP hD hS => ?_)
      obtain ⟨rfl, rfl, rfl⟩ := sj3 h
      exact hret _ _ _ _ _ rfl rfl hP hD hS dX6_set_51
    · have h := ifn c6 h
      refine lv_ldc hx hb hown k_2 dX6_set_31 ?_
      refine lv_aload_n hx hb dX6_set_33 rfl (lv_at hl 0 rfl) ?_
      refine ka_get (v := .int r4) (C := RX6) (T := TX6) (Nf := 8) (ref := "BeepNet") hx hb hts hiX6 hown hK hP 0 rfl rfl 6 (by decide) k_1 rfl rfl dX6_set_34 ?_
      refine lv_isub hx hb dX6_set_37 ?_
      refine lv_goto (tgt := 51) hx hb dX6_set_38 (by decide) ?_
      obtain ⟨rfl, rfl, rfl⟩ := sj3 h
      exact hret _ _ _ _ _ rfl rfl hP hD hS dX6_set_51
  · have h := ift c3 h
    refine lv_ldc hx hb hown k_3 dX6_set_7 ?_
    obtain ⟨rfl, rfl, rfl⟩ := sj3 h
    exact hret _ _ _ _ _ rfl rfl hP hD hS dX6_set_9
set_option maxHeartbeats 4000000 in
set_option maxRecDepth 100000 in
theorem c_X6_copy (l : Launch) (dC : Nat → ClassId) (dI : Nat → Nat → Nat) (cI cJ cZ cA : ClassId) (aB aS aN aR aT aQ aK aS_lanes aS_sizes aS_items : Nat) (rA : Nat → Nat) (B_latestFinding : Int32) (B_latestFault : Int32) (S_lanes : Nat → Int32) (S_sizes : Nat → Int32) (S_rows : Nat → Nat → Int32) (p0 : Int32) (p1 : Int32) (p2 : Int32) (p3 : Int32) (p4 : Int32) (rr : Int32) (B_latestFinding_z : Int32) (S_rows_z : Nat → Nat → Int32) (h : fX6_copy B_latestFinding S_lanes S_sizes S_rows p0 p1 p2 p3 p4 = some (rr, B_latestFinding_z, S_rows_z)) : Cti l yX6_copy wsX6_copy rmX6_copy (dC, dI) (tyL cI cJ cZ cA) [(aB, .inr (6, [.ref aS, .ref aN, .ref aR, .ref aT, .ref aQ, .ref aK, .int B_latestFinding, .int B_latestFault])), (aS, .inr (4, [.ref aS_lanes, .ref aS_sizes, .ref aS_items])), (aS_lanes, .inl (cI, 8, .inl S_lanes)), (aS_sizes, .inl (cI, 8, .inl S_sizes)), (aS_items, .inl (cA, 8, .inr (.inr (.inr (.inr (rwA rA)))))), (rA 0, .inl (cI, 40, .inl (S_rows 0))), (rA 1, .inl (cI, 40, .inl (S_rows 1))), (rA 2, .inl (cI, 40, .inl (S_rows 2))), (rA 3, .inl (cI, 40, .inl (S_rows 3))), (rA 4, .inl (cI, 40, .inl (S_rows 4))), (rA 5, .inl (cI, 40, .inl (S_rows 5))), (rA 6, .inl (cI, 40, .inl (S_rows 6))), (rA 7, .inl (cI, 40, .inl (S_rows 7)))] [(aB, .inr (6, [.ref aS, .ref aN, .ref aR, .ref aT, .ref aQ, .ref aK, .int B_latestFinding_z, .int B_latestFault])), (aS, .inr (4, [.ref aS_lanes, .ref aS_sizes, .ref aS_items])), (aS_lanes, .inl (cI, 8, .inl S_lanes)), (aS_sizes, .inl (cI, 8, .inl S_sizes)), (aS_items, .inl (cA, 8, .inr (.inr (.inr (.inr (rwA rA)))))), (rA 0, .inl (cI, 40, .inl (S_rows_z 0))), (rA 1, .inl (cI, 40, .inl (S_rows_z 1))), (rA 2, .inl (cI, 40, .inl (S_rows_z 2))), (rA 3, .inl (cI, 40, .inl (S_rows_z 3))), (rA 4, .inl (cI, 40, .inl (S_rows_z 4))), (rA 5, .inl (cI, 40, .inl (S_rows_z 5))), (rA 6, .inl (cI, 40, .inl (S_rows_z 6))), (rA 7, .inl (cI, 40, .inl (S_rows_z 7)))] [.ref aB, .int p0, .int p1, .int p2, .int p3, .int p4] rr := by
  refine ct_int (ty := .int) (cc := cX6_copy) (maxL := 6) (by decide) rfl (Nat.le_of_ble_eq_true rfl) ?_
  intro p e s m args below meth c A Q ls hx hb hml hown hts hA hK hP hD hS hl hret
  have hl : lv_has ls 6 [(0, .ref aB), (1, .int p0), (2, .int p1), (3, .int p2), (4, .int p3), (5, .int p4)] := hl
  have k_0 := hts (.constant RX6 57 (-1000001)) (by decide +kernel)
  have k_1 := hts (.fieldLink RX6 10 "BeepNet" "sheets" "LBeepNet$Sheets;") (by decide +kernel)
  have k_2 := hts (.fieldLink RX6 58 "BeepNet" "latestFinding" "I") (by decide +kernel)
  have k_3 := hts (.constant RX6 62 (-1000010)) (by decide +kernel)
  have hiX6 : ∀ w ∈ u_ws RX6 TX6 8, w ∈ wsX6_copy := fun w hw => List.mem_cons_of_mem _ (List.mem_append_left _ (List.mem_append_right _ hw))
  unfold fX6_copy at h
  refine lv_iload_n hx hb dX6_copy_0 rfl (lv_at hl 1 rfl) ?_
  obtain ⟨r1, e2, h⟩ := bd1_s h
  refine kc_si (rest := []) (wr := [(aB, .inr (6, [.ref aS, .ref aN, .ref aR, .ref aT, .ref aQ, .ref aK, .int B_latestFinding, .int B_latestFault])), (aS, .inr (4, [.ref aS_lanes, .ref aS_sizes, .ref aS_items])), (aS_lanes, .inl (cI, 8, .inl S_lanes)), (aS_sizes, .inl (cI, 8, .inl S_sizes)), (aS_items, .inl (cA, 8, .inr (.inr (.inr (.inr (rwA rA)))))), (rA 0, .inl (cI, 40, .inl (S_rows 0))), (rA 1, .inl (cI, 40, .inl (S_rows 1))), (rA 2, .inl (cI, 40, .inl (S_rows 2))), (rA 3, .inl (cI, 40, .inl (S_rows 3))), (rA 4, .inl (cI, 40, .inl (S_rows 4))), (rA 5, .inl (cI, 40, .inl (S_rows 5))), (rA 6, .inl (cI, 40, .inl (S_rows 6))), (rA 7, .inl (cI, 40, .inl (S_rows 7)))]) (wF := [(aB, .inr (6, [.ref aS, .ref aN, .ref aR, .ref aT, .ref aQ, .ref aK, .int B_latestFinding, .int B_latestFault])), (aS, .inr (4, [.ref aS_lanes, .ref aS_sizes, .ref aS_items])), (aS_lanes, .inl (cI, 8, .inl S_lanes)), (aS_sizes, .inl (cI, 8, .inl S_sizes)), (aS_items, .inl (cA, 8, .inr (.inr (.inr (.inr (rwA rA)))))), (rA 0, .inl (cI, 40, .inl (S_rows 0))), (rA 1, .inl (cI, 40, .inl (S_rows 1))), (rA 2, .inl (cI, 40, .inl (S_rows 2))), (rA 3, .inl (cI, 40, .inl (S_rows 3))), (rA 4, .inl (cI, 40, .inl (S_rows 4))), (rA 5, .inl (cI, 40, .inl (S_rows 5))), (rA 6, .inl (cI, 40, .inl (S_rows 6))), (rA 7, .inl (cI, 40, .inl (S_rows 7)))]) ⟨hx, hb, hml, hown, hts⟩ (c_X6_isSheet l dC dI cI cJ cZ cA p0 r1 e2) (va_cwS 1 hts gX6_copy_X6_isSheet rfl rfl rfl (by decide +kernel) ⟨Nat.le_of_ble_eq_true rfl, Nat.le_of_ble_eq_true rfl⟩) hK hP hD hS hA [] [0, 1, 2, 3, 4, 5, 6, 7, 8, 9, 10, 11, 12] [0, 1, 2, 3, 4, 5, 6, 7, 8, 9, 10, 11, 12] rfl rfl rfl rfl (by decide) rfl rfl rfl hl.1 rfl (Nat.le_of_ble_eq_true rfl) dX6_copy_1 ⟨Nat.zero_le _, Nat.zero_le _⟩ (fun H locs hP hD hS => ?_)
  refine lv_if_eq (tgt := 14) hx hb dX6_copy_4 (by decide) (fun c3 => ?_) (fun c3 => ?_)
  · have h := ift c3 h
    refine lv_ldc hx hb hown k_0 dX6_copy_14 ?_
    obtain ⟨rfl, rfl, rfl⟩ := sj3 h
    exact hret _ _ _ _ _ rfl rfl hP hD hS dX6_copy_16
  · have h := ifn c3 h
    refine lv_iload_n hx hb dX6_copy_7 rfl (lv_at hl 3 rfl) ?_
    obtain ⟨r4, e5, h⟩ := bd1_s h
    refine kc_si (rest := []) (wr := [(aB, .inr (6, [.ref aS, .ref aN, .ref aR, .ref aT, .ref aQ, .ref aK, .int B_latestFinding, .int B_latestFault])), (aS, .inr (4, [.ref aS_lanes, .ref aS_sizes, .ref aS_items])), (aS_lanes, .inl (cI, 8, .inl S_lanes)), (aS_sizes, .inl (cI, 8, .inl S_sizes)), (aS_items, .inl (cA, 8, .inr (.inr (.inr (.inr (rwA rA)))))), (rA 0, .inl (cI, 40, .inl (S_rows 0))), (rA 1, .inl (cI, 40, .inl (S_rows 1))), (rA 2, .inl (cI, 40, .inl (S_rows 2))), (rA 3, .inl (cI, 40, .inl (S_rows 3))), (rA 4, .inl (cI, 40, .inl (S_rows 4))), (rA 5, .inl (cI, 40, .inl (S_rows 5))), (rA 6, .inl (cI, 40, .inl (S_rows 6))), (rA 7, .inl (cI, 40, .inl (S_rows 7)))]) (wF := [(aB, .inr (6, [.ref aS, .ref aN, .ref aR, .ref aT, .ref aQ, .ref aK, .int B_latestFinding, .int B_latestFault])), (aS, .inr (4, [.ref aS_lanes, .ref aS_sizes, .ref aS_items])), (aS_lanes, .inl (cI, 8, .inl S_lanes)), (aS_sizes, .inl (cI, 8, .inl S_sizes)), (aS_items, .inl (cA, 8, .inr (.inr (.inr (.inr (rwA rA)))))), (rA 0, .inl (cI, 40, .inl (S_rows 0))), (rA 1, .inl (cI, 40, .inl (S_rows 1))), (rA 2, .inl (cI, 40, .inl (S_rows 2))), (rA 3, .inl (cI, 40, .inl (S_rows 3))), (rA 4, .inl (cI, 40, .inl (S_rows 4))), (rA 5, .inl (cI, 40, .inl (S_rows 5))), (rA 6, .inl (cI, 40, .inl (S_rows 6))), (rA 7, .inl (cI, 40, .inl (S_rows 7)))]) ⟨hx, hb, hml, hown, hts⟩ (c_X6_isSheet l dC dI cI cJ cZ cA p2 r4 e5) (va_cwS 1 hts gX6_copy_X6_isSheet rfl rfl rfl (by decide +kernel) ⟨Nat.le_of_ble_eq_true rfl, Nat.le_of_ble_eq_true rfl⟩) hK hP hD hS hA [] [0, 1, 2, 3, 4, 5, 6, 7, 8, 9, 10, 11, 12] [0, 1, 2, 3, 4, 5, 6, 7, 8, 9, 10, 11, 12] rfl rfl rfl rfl (by decide) rfl rfl rfl hl.1 rfl (Nat.le_of_ble_eq_true rfl) dX6_copy_8 ⟨Nat.zero_le _, Nat.zero_le _⟩ (fun H locs hP hD hS => ?_)
    refine lv_if_ne (tgt := 17) hx hb dX6_copy_11 (by decide) (fun c6 => ?_) (fun c6 => ?_)
    · have h := ifn c6 h
      refine lv_aload_n hx hb dX6_copy_17 rfl (lv_at hl 0 rfl) ?_
      refine lv_aload_n hx hb dX6_copy_18 rfl (lv_at hl 0 rfl) ?_
      refine ka_get (v := .ref aS) (C := RX6) (T := TX6) (Nf := 8) (ref := "BeepNet") hx hb hts hiX6 hown hK hP 0 rfl rfl 0 (by decide) k_1 rfl rfl dX6_copy_19 ?_
      refine lv_iload_n hx hb dX6_copy_22 rfl (lv_at hl 1 rfl) ?_
      refine lv_iload_n hx hb dX6_copy_23 rfl (lv_at hl 2 rfl) ?_
      refine lv_iload_n hx hb dX6_copy_24 rfl (lv_at hl 3 rfl) ?_
      refine lv_iload hx hb dX6_copy_25 (lv_at hl 4 rfl) ?_
      refine lv_iload hx hb dX6_copy_27 (lv_at hl 5 rfl) ?_
      obtain ⟨r7, e8, h⟩ := bd1_s h
      refine kc_vi (rest := [.ref aB]) (wr := [(aB, .inr (6, [.ref aS, .ref aN, .ref aR, .ref aT, .ref aQ, .ref aK, .int B_latestFinding, .int B_latestFault])), (aS_items, .inl (cA, 8, .inr (.inr (.inr (.inr (rwA rA)))))), (rA 0, .inl (cI, 40, .inl (S_rows 0))), (rA 1, .inl (cI, 40, .inl (S_rows 1))), (rA 2, .inl (cI, 40, .inl (S_rows 2))), (rA 3, .inl (cI, 40, .inl (S_rows 3))), (rA 4, .inl (cI, 40, .inl (S_rows 4))), (rA 5, .inl (cI, 40, .inl (S_rows 5))), (rA 6, .inl (cI, 40, .inl (S_rows 6))), (rA 7, .inl (cI, 40, .inl (S_rows 7)))]) (wF := [(aB, .inr (6, [.ref aS, .ref aN, .ref aR, .ref aT, .ref aQ, .ref aK, .int B_latestFinding, .int B_latestFault])), (aS, .inr (4, [.ref aS_lanes, .ref aS_sizes, .ref aS_items])), (aS_lanes, .inl (cI, 8, .inl S_lanes)), (aS_sizes, .inl (cI, 8, .inl S_sizes)), (aS_items, .inl (cA, 8, .inr (.inr (.inr (.inr (rwA rA)))))), (rA 0, .inl (cI, 40, .inl (S_rows 0))), (rA 1, .inl (cI, 40, .inl (S_rows 1))), (rA 2, .inl (cI, 40, .inl (S_rows 2))), (rA 3, .inl (cI, 40, .inl (S_rows 3))), (rA 4, .inl (cI, 40, .inl (S_rows 4))), (rA 5, .inl (cI, 40, .inl (S_rows 5))), (rA 6, .inl (cI, 40, .inl (S_rows 6))), (rA 7, .inl (cI, 40, .inl (S_rows 7)))]) ⟨hx, hb, hml, hown, hts⟩ (c_X4_findMove l dC dI cI cJ cZ cA aS aS_lanes aS_sizes aS_items S_lanes S_sizes p0 p1 p2 p3 p4 r7 e8) (cwV 5 hts gX6_copy_X4_findMove rfl rfl rfl (by decide +kernel) ⟨Nat.le_of_ble_eq_true rfl, Nat.le_of_ble_eq_true rfl⟩) hK hP hD hS hA [1, 2, 3] [0, 4, 5, 6, 7, 8, 9, 10, 11, 12] [0, 10, 11, 12, 1, 2, 3, 4, 5, 6, 7, 8, 9] 0 rfl rfl rfl rfl (by decide) rfl rfl rfl rfl rfl rfl hl.1 rfl (Nat.le_of_ble_eq_true rfl) dX6_copy_29 ⟨Nat.zero_le _, Nat.zero_le _⟩ (fun H locs hP hD hS => ?_)
      refine ka_put (w1 := [(aB, .inr (6, [.ref aS, .ref aN, .ref aR, .ref aT, .ref aQ, .ref aK, .int r7, .int B_latestFault])), (aS, .inr (4, [.ref aS_lanes, .ref aS_sizes, .ref aS_items])), (aS_lanes, .inl (cI, 8, .inl S_lanes)), (aS_sizes, .inl (cI, 8, .inl S_sizes)), (aS_items, .inl (cA, 8, .inr (.inr (.inr (.inr (rwA rA)))))), (rA 0, .inl (cI, 40, .inl (S_rows 0))), (rA 1, .inl (cI, 40, .inl (S_rows 1))), (rA 2, .inl (cI, 40, .inl (S_rows 2))), (rA 3, .inl (cI, 40, .inl (S_rows 3))), (rA 4, .inl (cI, 40, .inl (S_rows 4))), (rA 5, .inl (cI, 40, .inl (S_rows 5))), (rA 6, .inl (cI, 40, .inl (S_rows 6))), (rA 7, .inl (cI, 40, .inl (S_rows 7)))]) (C := RX6) (T := TX6) (Nf := 8) (ref := "BeepNet") hx hb hts hiX6 tyX6 tyX6_ok nmX6 hown hK hP hD hS 0 rfl rfl 6 (by decide) k_2 rfl rfl rfl (Nat.le_of_ble_eq_true rfl) dX6_copy_32 rfl (fun H locs hP hD hS => ?_)
      refine lv_aload_n hx hb dX6_copy_35 rfl (lv_at hl 0 rfl) ?_
      refine ka_get (v := .int r7) (C := RX6) (T := TX6) (Nf := 8) (ref := "BeepNet") hx hb hts hiX6 hown hK hP 0 rfl rfl 6 (by decide) k_2 rfl rfl dX6_copy_36 ?_
      refine lv_if_eq (tgt := 50) hx hb dX6_copy_39 (by decide) (fun c9 => ?_) (fun c9 => ?_)
      · have h := ift c9 h
        refine lv_aload_n hx hb dX6_copy_50 rfl (lv_at hl 0 rfl) ?_
        refine ka_get (v := .ref aS) (C := RX6) (T := TX6) (Nf := 8) (ref := "BeepNet") hx hb hts hiX6 hown hK hP 0 rfl rfl 0 (by decide) k_1 rfl rfl dX6_copy_51 ?_
        refine lv_iload_n hx hb dX6_copy_54 rfl (lv_at hl 1 rfl) ?_
        refine lv_iload_n hx hb dX6_copy_55 rfl (lv_at hl 2 rfl) ?_
        refine lv_iload_n hx hb dX6_copy_56 rfl (lv_at hl 3 rfl) ?_
        refine lv_iload hx hb dX6_copy_57 (lv_at hl 4 rfl) ?_
        refine lv_iload hx hb dX6_copy_59 (lv_at hl 5 rfl) ?_
        obtain ⟨S_rows_10, e11, h⟩ := bd1_s h
        refine kc_vv (rest := []) (wr := [(aB, .inr (6, [.ref aS, .ref aN, .ref aR, .ref aT, .ref aQ, .ref aK, .int r7, .int B_latestFault])), (aS_lanes, .inl (cI, 8, .inl S_lanes)), (aS_sizes, .inl (cI, 8, .inl S_sizes))]) (wF := [(aB, .inr (6, [.ref aS, .ref aN, .ref aR, .ref aT, .ref aQ, .ref aK, .int r7, .int B_latestFault])), (aS, .inr (4, [.ref aS_lanes, .ref aS_sizes, .ref aS_items])), (aS_lanes, .inl (cI, 8, .inl S_lanes)), (aS_sizes, .inl (cI, 8, .inl S_sizes)), (aS_items, .inl (cA, 8, .inr (.inr (.inr (.inr (rwA rA)))))), (rA 0, .inl (cI, 40, .inl (S_rows_10 0))), (rA 1, .inl (cI, 40, .inl (S_rows_10 1))), (rA 2, .inl (cI, 40, .inl (S_rows_10 2))), (rA 3, .inl (cI, 40, .inl (S_rows_10 3))), (rA 4, .inl (cI, 40, .inl (S_rows_10 4))), (rA 5, .inl (cI, 40, .inl (S_rows_10 5))), (rA 6, .inl (cI, 40, .inl (S_rows_10 6))), (rA 7, .inl (cI, 40, .inl (S_rows_10 7)))]) ⟨hx, hb, hml, hown, hts⟩ (c_X4_move l dC dI cI cJ cZ cA aS aS_lanes aS_sizes aS_items rA S_rows p0 p1 p2 p3 p4 S_rows_10 e11) (cwV 5 hts gX6_copy_X4_move rfl rfl rfl (by decide +kernel) ⟨Nat.le_of_ble_eq_true rfl, Nat.le_of_ble_eq_true rfl⟩) hK hP hD hS hA [1, 4, 5, 6, 7, 8, 9, 10, 11, 12] [0, 2, 3] [0, 3, 1, 2, 4, 5, 6, 7, 8, 9, 10, 11, 12] 0 rfl rfl rfl rfl (by decide) rfl rfl rfl rfl rfl rfl hl.1 rfl (Nat.le_of_ble_eq_true rfl) dX6_copy_61 ⟨Nat.zero_le _, Nat.zero_le _⟩ (fun H locs hP hD hS => ?_)
        refine lv_iload hx hb dX6_copy_64 (lv_at hl 5 rfl) ?_
        obtain ⟨rfl, rfl, rfl⟩ := sj3 h
        exact hret _ _ _ _ _ rfl rfl hP hD hS dX6_copy_66
      · have h := ifn c9 h
        refine lv_ldc hx hb hown k_3 dX6_copy_42 ?_
        refine lv_aload_n hx hb dX6_copy_44 rfl (lv_at hl 0 rfl) ?_
        refine ka_get (v := .int r7) (C := RX6) (T := TX6) (Nf := 8) (ref := "BeepNet") hx hb hts hiX6 hown hK hP 0 rfl rfl 6 (by decide) k_2 rfl rfl dX6_copy_45 ?_
        refine lv_isub hx hb dX6_copy_48 ?_
        obtain ⟨rfl, rfl, rfl⟩ := sj3 h
        exact hret _ _ _ _ _ rfl rfl hP hD hS dX6_copy_49
    · have h := ift c6 h
      refine lv_ldc hx hb hown k_0 dX6_copy_14 ?_
      obtain ⟨rfl, rfl, rfl⟩ := sj3 h
      exact hret _ _ _ _ _ rfl rfl hP hD hS dX6_copy_16
set_option maxHeartbeats 4000000 in
set_option maxRecDepth 100000 in
theorem c_X6_drop (l : Launch) (dC : Nat → ClassId) (dI : Nat → Nat → Nat) (cI cJ cZ cA : ClassId) (aB aS aN aR aT aQ aK aS_lanes aS_sizes aS_items : Nat) (B_latestFinding : Int32) (B_latestFault : Int32) (S_lanes : Nat → Int32) (S_sizes : Nat → Int32) (p0 : Int32) (rr : Int32) (B_latestFinding_z : Int32) (S_lanes_z : Nat → Int32) (h : fX6_drop B_latestFinding S_lanes S_sizes p0 = some (rr, B_latestFinding_z, S_lanes_z)) : Cti l yX6_drop wsX6_drop rmX6_drop (dC, dI) (tyL cI cJ cZ cA) [(aB, .inr (6, [.ref aS, .ref aN, .ref aR, .ref aT, .ref aQ, .ref aK, .int B_latestFinding, .int B_latestFault])), (aS, .inr (4, [.ref aS_lanes, .ref aS_sizes, .ref aS_items])), (aS_lanes, .inl (cI, 8, .inl S_lanes)), (aS_sizes, .inl (cI, 8, .inl S_sizes))] [(aB, .inr (6, [.ref aS, .ref aN, .ref aR, .ref aT, .ref aQ, .ref aK, .int B_latestFinding_z, .int B_latestFault])), (aS, .inr (4, [.ref aS_lanes, .ref aS_sizes, .ref aS_items])), (aS_lanes, .inl (cI, 8, .inl S_lanes_z)), (aS_sizes, .inl (cI, 8, .inl S_sizes))] [.ref aB, .int p0] rr := by
  refine ct_int (ty := .int) (cc := cX6_drop) (maxL := 2) (by decide) rfl (Nat.le_of_ble_eq_true rfl) ?_
  intro p e s m args below meth c A Q ls hx hb hml hown hts hA hK hP hD hS hl hret
  have hl : lv_has ls 2 [(0, .ref aB), (1, .int p0)] := hl
  have k_0 := hts (.fieldLink RX6 58 "BeepNet" "latestFinding" "I") (by decide +kernel)
  have k_1 := hts (.fieldLink RX6 10 "BeepNet" "sheets" "LBeepNet$Sheets;") (by decide +kernel)
  have k_2 := hts (.constant RX6 62 (-1000010)) (by decide +kernel)
  have k_3 := hts (.constant RX6 57 (-1000001)) (by decide +kernel)
  have hiX6 : ∀ w ∈ u_ws RX6 TX6 8, w ∈ wsX6_drop := fun w hw => List.mem_cons_of_mem _ (List.mem_append_left _ (List.mem_append_right _ hw))
  have hC27 : ∀ (B_latestFinding : Int32) (S_lanes : Nat → Int32) (x1 : Int32) (t1 : Int32) (H : Heap) (locs : List Loc) (ls : Array Slot), fX6_drop_c27 S_sizes B_latestFinding S_lanes x1 t1 = some (rr, B_latestFinding_z, S_lanes_z) → va_P (dC, dI) vwCl [(aB, .inr (6, [.ref aS, .ref aN, .ref aR, .ref aT, .ref aQ, .ref aK, .int B_latestFinding, .int B_latestFault])), (aS, .inr (4, [.ref aS_lanes, .ref aS_sizes, .ref aS_items])), (aS_lanes, .inl (cI, 8, .inl S_lanes)), (aS_sizes, .inl (cI, 8, .inl S_sizes))] H → va_D A [(aB, .inr (6, [.ref aS, .ref aN, .ref aR, .ref aT, .ref aQ, .ref aK, .int B_latestFinding, .int B_latestFault])), (aS, .inr (4, [.ref aS_lanes, .ref aS_sizes, .ref aS_items])), (aS_lanes, .inl (cI, 8, .inl S_lanes)), (aS_sizes, .inl (cI, 8, .inl S_sizes))] → va_S A s.heap H locs → lv_has ls 2 [(0, .ref aB), (1, .int x1)] → W p l e rmX6_drop s m args below meth c H locs 0 0 Q (F0 m 27 ls [.int t1, .ref aB]) := by
    intro B_latestFinding S_lanes x1 t1 H locs ls h hP hD hS hl
    unfold fX6_drop_c27 at h
    refine ka_put (w1 := [(aB, .inr (6, [.ref aS, .ref aN, .ref aR, .ref aT, .ref aQ, .ref aK, .int t1, .int B_latestFault])), (aS, .inr (4, [.ref aS_lanes, .ref aS_sizes, .ref aS_items])), (aS_lanes, .inl (cI, 8, .inl S_lanes)), (aS_sizes, .inl (cI, 8, .inl S_sizes))]) (C := RX6) (T := TX6) (Nf := 8) (ref := "BeepNet") hx hb hts hiX6 tyX6 tyX6_ok nmX6 hown hK hP hD hS 0 rfl rfl 6 (by decide) k_0 rfl rfl rfl (Nat.le_of_ble_eq_true rfl) dX6_drop_27 rfl (fun H locs hP hD hS => ?_)
    refine lv_aload_n hx hb dX6_drop_30 rfl (lv_at hl 0 rfl) ?_
    refine ka_get (v := .int t1) (C := RX6) (T := TX6) (Nf := 8) (ref := "BeepNet") hx hb hts hiX6 hown hK hP 0 rfl rfl 6 (by decide) k_0 rfl rfl dX6_drop_31 ?_
    refine lv_if_eq (tgt := 47) hx hb dX6_drop_34 (by decide) (fun c2801 => ?_) (fun c2801 => ?_)
    · have h := ift c2801 h
      refine lv_aload_n hx hb dX6_drop_47 rfl (lv_at hl 0 rfl) ?_
      refine ka_get (v := .ref aS) (C := RX6) (T := TX6) (Nf := 8) (ref := "BeepNet") hx hb hts hiX6 hown hK hP 0 rfl rfl 0 (by decide) k_1 rfl rfl dX6_drop_48 ?_
      refine lv_iload_n hx hb dX6_drop_51 rfl (lv_at hl 1 rfl) ?_
      obtain ⟨r2802, S_lanes_2803, e2804, h⟩ := bd2_s h
      refine kc_vi (rest := []) (wr := [(aB, .inr (6, [.ref aS, .ref aN, .ref aR, .ref aT, .ref aQ, .ref aK, .int t1, .int B_latestFault]))]) (wF := [(aB, .inr (6, [.ref aS, .ref aN, .ref aR, .ref aT, .ref aQ, .ref aK, .int t1, .int B_latestFault])), (aS, .inr (4, [.ref aS_lanes, .ref aS_sizes, .ref aS_items])), (aS_lanes, .inl (cI, 8, .inl S_lanes_2803)), (aS_sizes, .inl (cI, 8, .inl S_sizes))]) ⟨hx, hb, hml, hown, hts⟩ (c_X4_remove l dC dI cI cJ cZ cA aS aS_lanes aS_sizes aS_items S_lanes S_sizes x1 r2802 S_lanes_2803 e2804) (cwV 1 hts gX6_drop_X4_remove rfl rfl rfl (by decide +kernel) ⟨Nat.le_of_ble_eq_true rfl, Nat.le_of_ble_eq_true rfl⟩) hK hP hD hS hA [1, 2, 3] [0] [0, 1, 2, 3] 0 rfl rfl rfl rfl (by decide) rfl rfl rfl rfl rfl rfl hl.1 rfl (Nat.le_of_ble_eq_true rfl) dX6_drop_52 ⟨Nat.zero_le _, Nat.zero_le _⟩ (fun H locs hP hD hS => ?_)
      obtain ⟨rfl, rfl, rfl⟩ := sj3 h
      exact hret _ _ _ _ _ rfl rfl hP hD hS dX6_drop_55
    · have h := ifn c2801 h
      refine lv_ldc hx hb hown k_2 dX6_drop_37 ?_
      refine lv_aload_n hx hb dX6_drop_39 rfl (lv_at hl 0 rfl) ?_
      refine ka_get (v := .int t1) (C := RX6) (T := TX6) (Nf := 8) (ref := "BeepNet") hx hb hts hiX6 hown hK hP 0 rfl rfl 6 (by decide) k_0 rfl rfl dX6_drop_40 ?_
      refine lv_isub hx hb dX6_drop_43 ?_
      refine lv_goto (tgt := 55) hx hb dX6_drop_44 (by decide) ?_
      obtain ⟨rfl, rfl, rfl⟩ := sj3 h
      exact hret _ _ _ _ _ rfl rfl hP hD hS dX6_drop_55
  unfold fX6_drop at h
  refine lv_iload_n hx hb dX6_drop_0 rfl (lv_at hl 1 rfl) ?_
  obtain ⟨r1, e2, h⟩ := bd1_s h
  refine kc_si (rest := []) (wr := [(aB, .inr (6, [.ref aS, .ref aN, .ref aR, .ref aT, .ref aQ, .ref aK, .int B_latestFinding, .int B_latestFault])), (aS, .inr (4, [.ref aS_lanes, .ref aS_sizes, .ref aS_items])), (aS_lanes, .inl (cI, 8, .inl S_lanes)), (aS_sizes, .inl (cI, 8, .inl S_sizes))]) (wF := [(aB, .inr (6, [.ref aS, .ref aN, .ref aR, .ref aT, .ref aQ, .ref aK, .int B_latestFinding, .int B_latestFault])), (aS, .inr (4, [.ref aS_lanes, .ref aS_sizes, .ref aS_items])), (aS_lanes, .inl (cI, 8, .inl S_lanes)), (aS_sizes, .inl (cI, 8, .inl S_sizes))]) ⟨hx, hb, hml, hown, hts⟩ (c_X6_isSheet l dC dI cI cJ cZ cA p0 r1 e2) (va_cwS 1 hts gX6_drop_X6_isSheet rfl rfl rfl (by decide +kernel) ⟨Nat.le_of_ble_eq_true rfl, Nat.le_of_ble_eq_true rfl⟩) hK hP hD hS hA [] [0, 1, 2, 3] [0, 1, 2, 3] rfl rfl rfl rfl (by decide) rfl rfl rfl hl.1 rfl (Nat.le_of_ble_eq_true rfl) dX6_drop_1 ⟨Nat.zero_le _, Nat.zero_le _⟩ (fun H locs hP hD hS => ?_)
  refine lv_if_ne (tgt := 10) hx hb dX6_drop_4 (by decide) (fun c3 => ?_) (fun c3 => ?_)
  · have h := ifn c3 h
    refine lv_aload_n hx hb dX6_drop_10 rfl (lv_at hl 0 rfl) ?_
    refine lv_aload_n hx hb dX6_drop_11 rfl (lv_at hl 0 rfl) ?_
    refine ka_get (v := .ref aS) (C := RX6) (T := TX6) (Nf := 8) (ref := "BeepNet") hx hb hts hiX6 hown hK hP 0 rfl rfl 0 (by decide) k_1 rfl rfl dX6_drop_12 ?_
    refine lv_iload_n hx hb dX6_drop_15 rfl (lv_at hl 1 rfl) ?_
    obtain ⟨r4, e5, h⟩ := bd1_s h
    refine kc_vi (rest := [.ref aB]) (wr := [(aB, .inr (6, [.ref aS, .ref aN, .ref aR, .ref aT, .ref aQ, .ref aK, .int B_latestFinding, .int B_latestFault])), (aS_sizes, .inl (cI, 8, .inl S_sizes))]) (wF := [(aB, .inr (6, [.ref aS, .ref aN, .ref aR, .ref aT, .ref aQ, .ref aK, .int B_latestFinding, .int B_latestFault])), (aS, .inr (4, [.ref aS_lanes, .ref aS_sizes, .ref aS_items])), (aS_lanes, .inl (cI, 8, .inl S_lanes)), (aS_sizes, .inl (cI, 8, .inl S_sizes))]) ⟨hx, hb, hml, hown, hts⟩ (c_X4_isMissing l dC dI cI cJ cZ cA aS aS_lanes aS_sizes aS_items S_lanes p0 r4 e5) (cwV 1 hts gX6_drop_X4_isMissing rfl rfl rfl (by decide +kernel) ⟨Nat.le_of_ble_eq_true rfl, Nat.le_of_ble_eq_true rfl⟩) hK hP hD hS hA [1, 2] [0, 3] [0, 2, 3, 1] 0 rfl rfl rfl rfl (by decide) rfl rfl rfl rfl rfl rfl hl.1 rfl (Nat.le_of_ble_eq_true rfl) dX6_drop_16 ⟨Nat.zero_le _, Nat.zero_le _⟩ (fun H locs hP hD hS => ?_)
    refine lv_if_eq (tgt := 26) hx hb dX6_drop_19 (by decide) (fun c6 => ?_) (fun c6 => ?_)
    · have h := ift c6 h
      refine lv_iconst (v := 0) hx hb dX6_drop_26 (by decide) ?_
      exact hC27 B_latestFinding S_lanes p0 0 _ _ _ h hP hD hS (lv_sub hl [0, 1] rfl)
    · have h := ifn c6 h
      refine lv_iconst (v := 1) hx hb dX6_drop_22 (by decide) ?_
      refine lv_goto (tgt := 27) hx hb dX6_drop_23 (by decide) ?_
      exact hC27 B_latestFinding S_lanes p0 1 _ _ _ h hP hD hS (lv_sub hl [0, 1] rfl)
  · have h := ift c3 h
    refine lv_ldc hx hb hown k_3 dX6_drop_7 ?_
    obtain ⟨rfl, rfl, rfl⟩ := sj3 h
    exact hret _ _ _ _ _ rfl rfl hP hD hS dX6_drop_9
set_option maxHeartbeats 4000000 in
set_option maxRecDepth 100000 in
theorem c_X6_post (l : Launch) (dC : Nat → ClassId) (dI : Nat → Nat → Nat) (cI cJ cZ cA : ClassId) (aB aS aN aR aT aQ aK aN_neighbours : Nat) (B_latestFinding : Int32) (B_latestFault : Int32) (N_posts : Int32) (rr : Int32) (N_posts_z : Int32) (h : fX6_post N_posts = some (rr, N_posts_z)) : Cti l yX6_post wsX6_post rmX6_post (dC, dI) (tyL cI cJ cZ cA) [(aB, .inr (6, [.ref aS, .ref aN, .ref aR, .ref aT, .ref aQ, .ref aK, .int B_latestFinding, .int B_latestFault])), (aN, .inr (1, [.ref aN_neighbours, .int N_posts]))] [(aB, .inr (6, [.ref aS, .ref aN, .ref aR, .ref aT, .ref aQ, .ref aK, .int B_latestFinding, .int B_latestFault])), (aN, .inr (1, [.ref aN_neighbours, .int N_posts_z]))] [.ref aB] rr := by
  refine ct_int (ty := .int) (cc := cX6_post) (maxL := 1) (by decide) rfl (Nat.le_of_ble_eq_true rfl) ?_
  intro p e s m args below meth c A Q ls hx hb hml hown hts hA hK hP hD hS hl hret
  have hl : lv_has ls 1 [(0, .ref aB)] := hl
  have k_0 := hts (.fieldLink RX6 19 "BeepNet" "net" "LBeepNet$Net;") (by decide +kernel)
  have k_1 := hts (.constant RX6 93 (-1000003)) (by decide +kernel)
  have hiX6 : ∀ w ∈ u_ws RX6 TX6 8, w ∈ wsX6_post := fun w hw => List.mem_cons_of_mem _ (List.mem_append_left _ (List.mem_append_right _ hw))
  unfold fX6_post at h
  refine lv_aload_n hx hb dX6_post_0 rfl (lv_at hl 0 rfl) ?_
  refine ka_get (v := .ref aN) (C := RX6) (T := TX6) (Nf := 8) (ref := "BeepNet") hx hb hts hiX6 hown hK hP 0 rfl rfl 1 (by decide) k_0 rfl rfl dX6_post_1 ?_
  obtain ⟨r1, e2, h⟩ := bd1_s h
  refine kc_vi (rest := []) (wr := [(aB, .inr (6, [.ref aS, .ref aN, .ref aR, .ref aT, .ref aQ, .ref aK, .int B_latestFinding, .int B_latestFault]))]) (wF := [(aB, .inr (6, [.ref aS, .ref aN, .ref aR, .ref aT, .ref aQ, .ref aK, .int B_latestFinding, .int B_latestFault])), (aN, .inr (1, [.ref aN_neighbours, .int N_posts]))]) ⟨hx, hb, hml, hown, hts⟩ (c_X1_isFull l dC dI cI cJ cZ cA aN aN_neighbours N_posts r1 e2) (cwV 0 hts gX6_post_X1_isFull rfl rfl rfl (by decide +kernel) ⟨Nat.le_of_ble_eq_true rfl, Nat.le_of_ble_eq_true rfl⟩) hK hP hD hS hA [1] [0] [0, 1] 0 rfl rfl rfl rfl (by decide) rfl rfl rfl rfl rfl rfl hl.1 rfl (Nat.le_of_ble_eq_true rfl) dX6_post_4 ⟨Nat.zero_le _, Nat.zero_le _⟩ (fun H locs hP hD hS => ?_)
  refine lv_if_eq (tgt := 15) hx hb dX6_post_7 (by decide) (fun c3 => ?_) (fun c3 => ?_)
  · have h := ift c3 h
    refine lv_aload_n hx hb dX6_post_15 rfl (lv_at hl 0 rfl) ?_
    refine ka_get (v := .ref aN) (C := RX6) (T := TX6) (Nf := 8) (ref := "BeepNet") hx hb hts hiX6 hown hK hP 0 rfl rfl 1 (by decide) k_0 rfl rfl dX6_post_16 ?_
    obtain ⟨r4, N_posts_5, e6, h⟩ := bd2_s h
    refine kc_vi (rest := []) (wr := [(aB, .inr (6, [.ref aS, .ref aN, .ref aR, .ref aT, .ref aQ, .ref aK, .int B_latestFinding, .int B_latestFault]))]) (wF := [(aB, .inr (6, [.ref aS, .ref aN, .ref aR, .ref aT, .ref aQ, .ref aK, .int B_latestFinding, .int B_latestFault])), (aN, .inr (1, [.ref aN_neighbours, .int N_posts_5]))]) ⟨hx, hb, hml, hown, hts⟩ (c_X1_add l dC dI cI cJ cZ cA aN aN_neighbours N_posts r4 N_posts_5 e6) (cwV 0 hts gX6_post_X1_add rfl rfl rfl (by decide +kernel) ⟨Nat.le_of_ble_eq_true rfl, Nat.le_of_ble_eq_true rfl⟩) hK hP hD hS hA [1] [0] [0, 1] 0 rfl rfl rfl rfl (by decide) rfl rfl rfl rfl rfl rfl hl.1 rfl (Nat.le_of_ble_eq_true rfl) dX6_post_19 ⟨Nat.zero_le _, Nat.zero_le _⟩ (fun H locs hP hD hS => ?_)
    obtain ⟨rfl, rfl⟩ := sj2 h
    exact hret _ _ _ _ _ rfl rfl hP hD hS dX6_post_22
  · have h := ifn c3 h
    refine lv_ldc hx hb hown k_1 dX6_post_10 ?_
    refine lv_goto (tgt := 22) hx hb dX6_post_12 (by decide) ?_
    obtain ⟨rfl, rfl⟩ := sj2 h
    exact hret _ _ _ _ _ rfl rfl hP hD hS dX6_post_22
set_option maxHeartbeats 4000000 in
set_option maxRecDepth 100000 in
theorem c_X6_isPair (l : Launch) (dC : Nat → ClassId) (dI : Nat → Nat → Nat) (cI cJ cZ cA : ClassId) (aB aS aN aR aT aQ aK aN_neighbours : Nat) (B_latestFinding : Int32) (B_latestFault : Int32) (N_posts : Int32) (p0 : Int32) (p1 : Int32) (rr : Int32) (h : fX6_isPair N_posts p0 p1 = some rr) : Cti l yX6_isPair wsX6_isPair rmX6_isPair (dC, dI) (tyL cI cJ cZ cA) [(aB, .inr (6, [.ref aS, .ref aN, .ref aR, .ref aT, .ref aQ, .ref aK, .int B_latestFinding, .int B_latestFault])), (aN, .inr (1, [.ref aN_neighbours, .int N_posts]))] [(aB, .inr (6, [.ref aS, .ref aN, .ref aR, .ref aT, .ref aQ, .ref aK, .int B_latestFinding, .int B_latestFault])), (aN, .inr (1, [.ref aN_neighbours, .int N_posts]))] [.ref aB, .int p0, .int p1] rr := by
  refine ct_int (ty := .boolean) (cc := cX6_isPair) (maxL := 3) (by decide) rfl (Nat.le_of_ble_eq_true rfl) ?_
  intro p e s m args below meth c A Q ls hx hb hml hown hts hA hK hP hD hS hl hret
  have hl : lv_has ls 3 [(0, .ref aB), (1, .int p0), (2, .int p1)] := hl
  have k_0 := hts (.fieldLink RX6 19 "BeepNet" "net" "LBeepNet$Net;") (by decide +kernel)
  have hiX6 : ∀ w ∈ u_ws RX6 TX6 8, w ∈ wsX6_isPair := fun w hw => List.mem_cons_of_mem _ (List.mem_append_left _ (List.mem_append_right _ hw))
  unfold fX6_isPair at h
  refine lv_aload_n hx hb dX6_isPair_0 rfl (lv_at hl 0 rfl) ?_
  refine ka_get (v := .ref aN) (C := RX6) (T := TX6) (Nf := 8) (ref := "BeepNet") hx hb hts hiX6 hown hK hP 0 rfl rfl 1 (by decide) k_0 rfl rfl dX6_isPair_1 ?_
  refine lv_iload_n hx hb dX6_isPair_4 rfl (lv_at hl 1 rfl) ?_
  obtain ⟨r1, e2, h⟩ := bd1_s h
  refine kc_vi (rest := []) (wr := [(aB, .inr (6, [.ref aS, .ref aN, .ref aR, .ref aT, .ref aQ, .ref aK, .int B_latestFinding, .int B_latestFault]))]) (wF := [(aB, .inr (6, [.ref aS, .ref aN, .ref aR, .ref aT, .ref aQ, .ref aK, .int B_latestFinding, .int B_latestFault])), (aN, .inr (1, [.ref aN_neighbours, .int N_posts]))]) ⟨hx, hb, hml, hown, hts⟩ (c_X1_hasPost l dC dI cI cJ cZ cA aN aN_neighbours N_posts p0 r1 e2) (cwV 1 hts gX6_isPair_X1_hasPost rfl rfl rfl (by decide +kernel) ⟨Nat.le_of_ble_eq_true rfl, Nat.le_of_ble_eq_true rfl⟩) hK hP hD hS hA [1] [0] [0, 1] 0 rfl rfl rfl rfl (by decide) rfl rfl rfl rfl rfl rfl hl.1 rfl (Nat.le_of_ble_eq_true rfl) dX6_isPair_5 ⟨Nat.zero_le _, Nat.zero_le _⟩ (fun H locs hP hD hS => ?_)
  refine lv_if_eq (tgt := 31) hx hb dX6_isPair_8 (by decide) (fun c3 => ?_) (fun c3 => ?_)
  · have h := ift c3 h
    refine lv_iconst (v := 0) hx hb dX6_isPair_31 (by decide) ?_
    obtain rfl := sj1 h
    exact hret _ _ _ _ _ rfl rfl hP hD hS dX6_isPair_32
  · have h := ifn c3 h
    refine lv_aload_n hx hb dX6_isPair_11 rfl (lv_at hl 0 rfl) ?_
    refine ka_get (v := .ref aN) (C := RX6) (T := TX6) (Nf := 8) (ref := "BeepNet") hx hb hts hiX6 hown hK hP 0 rfl rfl 1 (by decide) k_0 rfl rfl dX6_isPair_12 ?_
    refine lv_iload_n hx hb dX6_isPair_15 rfl (lv_at hl 2 rfl) ?_
    obtain ⟨r4, e5, h⟩ := bd1_s h
    refine kc_vi (rest := []) (wr := [(aB, .inr (6, [.ref aS, .ref aN, .ref aR, .ref aT, .ref aQ, .ref aK, .int B_latestFinding, .int B_latestFault]))]) (wF := [(aB, .inr (6, [.ref aS, .ref aN, .ref aR, .ref aT, .ref aQ, .ref aK, .int B_latestFinding, .int B_latestFault])), (aN, .inr (1, [.ref aN_neighbours, .int N_posts]))]) ⟨hx, hb, hml, hown, hts⟩ (c_X1_hasPost l dC dI cI cJ cZ cA aN aN_neighbours N_posts p1 r4 e5) (cwV 1 hts gX6_isPair_X1_hasPost rfl rfl rfl (by decide +kernel) ⟨Nat.le_of_ble_eq_true rfl, Nat.le_of_ble_eq_true rfl⟩) hK hP hD hS hA [1] [0] [0, 1] 0 rfl rfl rfl rfl (by decide) rfl rfl rfl rfl rfl rfl hl.1 rfl (Nat.le_of_ble_eq_true rfl) dX6_isPair_16 ⟨Nat.zero_le _, Nat.zero_le _⟩ (fun H locs hP hD hS => ?_)
    refine lv_if_eq (tgt := 31) hx hb dX6_isPair_19 (by decide) (fun c6 => ?_) (fun c6 => ?_)
    · have h := ift c6 h
      refine lv_iconst (v := 0) hx hb dX6_isPair_31 (by decide) ?_
      obtain rfl := sj1 h
      exact hret _ _ _ _ _ rfl rfl hP hD hS dX6_isPair_32
    · have h := ifn c6 h
      refine lv_iload_n hx hb dX6_isPair_22 rfl (lv_at hl 1 rfl) ?_
      refine lv_iload_n hx hb dX6_isPair_23 rfl (lv_at hl 2 rfl) ?_
      refine lv_icmp_eq (tgt := 31) hx hb dX6_isPair_24 (by decide) (fun c7 => ?_) (fun c7 => ?_)
      · have h := ift c7 h
        refine lv_iconst (v := 0) hx hb dX6_isPair_31 (by decide) ?_
        obtain rfl := sj1 h
        exact hret _ _ _ _ _ rfl rfl hP hD hS dX6_isPair_32
      · have h := ifn c7 h
        refine lv_iconst (v := 1) hx hb dX6_isPair_27 (by decide) ?_
        refine lv_goto (tgt := 32) hx hb dX6_isPair_28 (by decide) ?_
        obtain rfl := sj1 h
        exact hret _ _ _ _ _ rfl rfl hP hD hS dX6_isPair_32
set_option maxHeartbeats 4000000 in
set_option maxRecDepth 100000 in
theorem c_X6_join (l : Launch) (dC : Nat → ClassId) (dI : Nat → Nat → Nat) (cI cJ cZ cA : ClassId) (aB aS aN aR aT aQ aK aN_neighbours : Nat) (B_latestFinding : Int32) (B_latestFault : Int32) (N_posts : Int32) (N_neighbours : Nat → Int32) (p0 : Int32) (p1 : Int32) (rr : Int32) (N_neighbours_z : Nat → Int32) (h : fX6_join N_posts N_neighbours p0 p1 = some (rr, N_neighbours_z)) : Cti l yX6_join wsX6_join rmX6_join (dC, dI) (tyL cI cJ cZ cA) [(aB, .inr (6, [.ref aS, .ref aN, .ref aR, .ref aT, .ref aQ, .ref aK, .int B_latestFinding, .int B_latestFault])), (aN, .inr (1, [.ref aN_neighbours, .int N_posts])), (aN_neighbours, .inl (cI, 8, .inl N_neighbours))] [(aB, .inr (6, [.ref aS, .ref aN, .ref aR, .ref aT, .ref aQ, .ref aK, .int B_latestFinding, .int B_latestFault])), (aN, .inr (1, [.ref aN_neighbours, .int N_posts])), (aN_neighbours, .inl (cI, 8, .inl N_neighbours_z))] [.ref aB, .int p0, .int p1] rr := by
  refine ct_int (ty := .int) (cc := cX6_join) (maxL := 3) (by decide) rfl (Nat.le_of_ble_eq_true rfl) ?_
  intro p e s m args below meth c A Q ls hx hb hml hown hts hA hK hP hD hS hl hret
  have hl : lv_has ls 3 [(0, .ref aB), (1, .int p0), (2, .int p1)] := hl
  have k_0 := hts (.fieldLink RX6 19 "BeepNet" "net" "LBeepNet$Net;") (by decide +kernel)
  have k_1 := hts (.constant RX6 57 (-1000001)) (by decide +kernel)
  have hiX6 : ∀ w ∈ u_ws RX6 TX6 8, w ∈ wsX6_join := fun w hw => List.mem_cons_of_mem _ (List.mem_append_left _ (List.mem_append_right _ hw))
  unfold fX6_join at h
  refine lv_aload_n hx hb dX6_join_0 rfl (lv_at hl 0 rfl) ?_
  refine lv_iload_n hx hb dX6_join_1 rfl (lv_at hl 1 rfl) ?_
  refine lv_iload_n hx hb dX6_join_2 rfl (lv_at hl 2 rfl) ?_
  obtain ⟨r1, e2, h⟩ := bd1_s h
  refine kc_vi (rest := []) (wr := [(aN_neighbours, .inl (cI, 8, .inl N_neighbours))]) (wF := [(aB, .inr (6, [.ref aS, .ref aN, .ref aR, .ref aT, .ref aQ, .ref aK, .int B_latestFinding, .int B_latestFault])), (aN, .inr (1, [.ref aN_neighbours, .int N_posts])), (aN_neighbours, .inl (cI, 8, .inl N_neighbours))]) ⟨hx, hb, hml, hown, hts⟩ (c_X6_isPair l dC dI cI cJ cZ cA aB aS aN aR aT aQ aK aN_neighbours B_latestFinding B_latestFault N_posts p0 p1 r1 e2) (cwV 2 hts gX6_join_X6_isPair rfl rfl rfl (by decide +kernel) ⟨Nat.le_of_ble_eq_true rfl, Nat.le_of_ble_eq_true rfl⟩) hK hP hD hS hA [0, 1] [2] [1, 2, 0] 0 rfl rfl rfl rfl (by decide) rfl rfl rfl rfl rfl rfl hl.1 rfl (Nat.le_of_ble_eq_true rfl) dX6_join_3 ⟨Nat.zero_le _, Nat.zero_le _⟩ (fun H locs hP hD hS => ?_)
  refine lv_if_ne (tgt := 12) hx hb dX6_join_6 (by decide) (fun c3 => ?_) (fun c3 => ?_)
  · have h := ifn c3 h
    refine lv_aload_n hx hb dX6_join_12 rfl (lv_at hl 0 rfl) ?_
    refine ka_get (v := .ref aN) (C := RX6) (T := TX6) (Nf := 8) (ref := "BeepNet") hx hb hts hiX6 hown hK hP 0 rfl rfl 1 (by decide) k_0 rfl rfl dX6_join_13 ?_
    refine lv_iload_n hx hb dX6_join_16 rfl (lv_at hl 1 rfl) ?_
    refine lv_iload_n hx hb dX6_join_17 rfl (lv_at hl 2 rfl) ?_
    obtain ⟨r4, e5, h⟩ := bd1_s h
    refine kc_vi (rest := []) (wr := [(aB, .inr (6, [.ref aS, .ref aN, .ref aR, .ref aT, .ref aQ, .ref aK, .int B_latestFinding, .int B_latestFault]))]) (wF := [(aB, .inr (6, [.ref aS, .ref aN, .ref aR, .ref aT, .ref aQ, .ref aK, .int B_latestFinding, .int B_latestFault])), (aN, .inr (1, [.ref aN_neighbours, .int N_posts])), (aN_neighbours, .inl (cI, 8, .inl N_neighbours))]) ⟨hx, hb, hml, hown, hts⟩ (c_X1_isLinked l dC dI cI cJ cZ cA aN aN_neighbours N_posts N_neighbours p0 p1 r4 e5) (cwV 2 hts gX6_join_X1_isLinked rfl rfl rfl (by decide +kernel) ⟨Nat.le_of_ble_eq_true rfl, Nat.le_of_ble_eq_true rfl⟩) hK hP hD hS hA [1, 2] [0] [0, 1, 2] 0 rfl rfl rfl rfl (by decide) rfl rfl rfl rfl rfl rfl hl.1 rfl (Nat.le_of_ble_eq_true rfl) dX6_join_18 ⟨Nat.zero_le _, Nat.zero_le _⟩ (fun H locs hP hD hS => ?_)
    refine lv_if_eq (tgt := 28) hx hb dX6_join_21 (by decide) (fun c6 => ?_) (fun c6 => ?_)
    · have h := ift c6 h
      refine lv_aload_n hx hb dX6_join_28 rfl (lv_at hl 0 rfl) ?_
      refine ka_get (v := .ref aN) (C := RX6) (T := TX6) (Nf := 8) (ref := "BeepNet") hx hb hts hiX6 hown hK hP 0 rfl rfl 1 (by decide) k_0 rfl rfl dX6_join_29 ?_
      refine lv_iload_n hx hb dX6_join_32 rfl (lv_at hl 1 rfl) ?_
      refine lv_iload_n hx hb dX6_join_33 rfl (lv_at hl 2 rfl) ?_
      obtain ⟨r7, N_neighbours_8, e9, h⟩ := bd2_s h
      refine kc_vi (rest := []) (wr := [(aB, .inr (6, [.ref aS, .ref aN, .ref aR, .ref aT, .ref aQ, .ref aK, .int B_latestFinding, .int B_latestFault]))]) (wF := [(aB, .inr (6, [.ref aS, .ref aN, .ref aR, .ref aT, .ref aQ, .ref aK, .int B_latestFinding, .int B_latestFault])), (aN, .inr (1, [.ref aN_neighbours, .int N_posts])), (aN_neighbours, .inl (cI, 8, .inl N_neighbours_8))]) ⟨hx, hb, hml, hown, hts⟩ (c_X1_toggle l dC dI cI cJ cZ cA aN aN_neighbours N_posts N_neighbours p0 p1 r7 N_neighbours_8 e9) (cwV 2 hts gX6_join_X1_toggle rfl rfl rfl (by decide +kernel) ⟨Nat.le_of_ble_eq_true rfl, Nat.le_of_ble_eq_true rfl⟩) hK hP hD hS hA [1, 2] [0] [0, 1, 2] 0 rfl rfl rfl rfl (by decide) rfl rfl rfl rfl rfl rfl hl.1 rfl (Nat.le_of_ble_eq_true rfl) dX6_join_34 ⟨Nat.zero_le _, Nat.zero_le _⟩ (fun H locs hP hD hS => ?_)
      obtain ⟨rfl, rfl⟩ := sj2 h
      exact hret _ _ _ _ _ rfl rfl hP hD hS dX6_join_37
    · have h := ifn c6 h
      refine lv_iconst (v := 0) hx hb dX6_join_24 (by decide) ?_
      refine lv_goto (tgt := 37) hx hb dX6_join_25 (by decide) ?_
      obtain ⟨rfl, rfl⟩ := sj2 h
      exact hret _ _ _ _ _ rfl rfl hP hD hS dX6_join_37
  · have h := ift c3 h
    refine lv_ldc hx hb hown k_1 dX6_join_9 ?_
    obtain ⟨rfl, rfl⟩ := sj2 h
    exact hret _ _ _ _ _ rfl rfl hP hD hS dX6_join_11
set_option maxHeartbeats 4000000 in
set_option maxRecDepth 100000 in
theorem c_X6_part (l : Launch) (dC : Nat → ClassId) (dI : Nat → Nat → Nat) (cI cJ cZ cA : ClassId) (aB aS aN aR aT aQ aK aN_neighbours : Nat) (B_latestFinding : Int32) (B_latestFault : Int32) (N_posts : Int32) (N_neighbours : Nat → Int32) (p0 : Int32) (p1 : Int32) (rr : Int32) (N_neighbours_z : Nat → Int32) (h : fX6_part N_posts N_neighbours p0 p1 = some (rr, N_neighbours_z)) : Cti l yX6_part wsX6_part rmX6_part (dC, dI) (tyL cI cJ cZ cA) [(aB, .inr (6, [.ref aS, .ref aN, .ref aR, .ref aT, .ref aQ, .ref aK, .int B_latestFinding, .int B_latestFault])), (aN, .inr (1, [.ref aN_neighbours, .int N_posts])), (aN_neighbours, .inl (cI, 8, .inl N_neighbours))] [(aB, .inr (6, [.ref aS, .ref aN, .ref aR, .ref aT, .ref aQ, .ref aK, .int B_latestFinding, .int B_latestFault])), (aN, .inr (1, [.ref aN_neighbours, .int N_posts])), (aN_neighbours, .inl (cI, 8, .inl N_neighbours_z))] [.ref aB, .int p0, .int p1] rr := by
  refine ct_int (ty := .int) (cc := cX6_part) (maxL := 3) (by decide) rfl (Nat.le_of_ble_eq_true rfl) ?_
  intro p e s m args below meth c A Q ls hx hb hml hown hts hA hK hP hD hS hl hret
  have hl : lv_has ls 3 [(0, .ref aB), (1, .int p0), (2, .int p1)] := hl
  have k_0 := hts (.fieldLink RX6 19 "BeepNet" "net" "LBeepNet$Net;") (by decide +kernel)
  have k_1 := hts (.constant RX6 57 (-1000001)) (by decide +kernel)
  have hiX6 : ∀ w ∈ u_ws RX6 TX6 8, w ∈ wsX6_part := fun w hw => List.mem_cons_of_mem _ (List.mem_append_left _ (List.mem_append_right _ hw))
  unfold fX6_part at h
  refine lv_aload_n hx hb dX6_part_0 rfl (lv_at hl 0 rfl) ?_
  refine lv_iload_n hx hb dX6_part_1 rfl (lv_at hl 1 rfl) ?_
  refine lv_iload_n hx hb dX6_part_2 rfl (lv_at hl 2 rfl) ?_
  obtain ⟨r1, e2, h⟩ := bd1_s h
  refine kc_vi (rest := []) (wr := [(aN_neighbours, .inl (cI, 8, .inl N_neighbours))]) (wF := [(aB, .inr (6, [.ref aS, .ref aN, .ref aR, .ref aT, .ref aQ, .ref aK, .int B_latestFinding, .int B_latestFault])), (aN, .inr (1, [.ref aN_neighbours, .int N_posts])), (aN_neighbours, .inl (cI, 8, .inl N_neighbours))]) ⟨hx, hb, hml, hown, hts⟩ (c_X6_isPair l dC dI cI cJ cZ cA aB aS aN aR aT aQ aK aN_neighbours B_latestFinding B_latestFault N_posts p0 p1 r1 e2) (cwV 2 hts gX6_part_X6_isPair rfl rfl rfl (by decide +kernel) ⟨Nat.le_of_ble_eq_true rfl, Nat.le_of_ble_eq_true rfl⟩) hK hP hD hS hA [0, 1] [2] [1, 2, 0] 0 rfl rfl rfl rfl (by decide) rfl rfl rfl rfl rfl rfl hl.1 rfl (Nat.le_of_ble_eq_true rfl) dX6_part_3 ⟨Nat.zero_le _, Nat.zero_le _⟩ (fun H locs hP hD hS => ?_)
  refine lv_if_ne (tgt := 12) hx hb dX6_part_6 (by decide) (fun c3 => ?_) (fun c3 => ?_)
  · have h := ifn c3 h
    refine lv_aload_n hx hb dX6_part_12 rfl (lv_at hl 0 rfl) ?_
    refine ka_get (v := .ref aN) (C := RX6) (T := TX6) (Nf := 8) (ref := "BeepNet") hx hb hts hiX6 hown hK hP 0 rfl rfl 1 (by decide) k_0 rfl rfl dX6_part_13 ?_
    refine lv_iload_n hx hb dX6_part_16 rfl (lv_at hl 1 rfl) ?_
    refine lv_iload_n hx hb dX6_part_17 rfl (lv_at hl 2 rfl) ?_
    obtain ⟨r4, e5, h⟩ := bd1_s h
    refine kc_vi (rest := []) (wr := [(aB, .inr (6, [.ref aS, .ref aN, .ref aR, .ref aT, .ref aQ, .ref aK, .int B_latestFinding, .int B_latestFault]))]) (wF := [(aB, .inr (6, [.ref aS, .ref aN, .ref aR, .ref aT, .ref aQ, .ref aK, .int B_latestFinding, .int B_latestFault])), (aN, .inr (1, [.ref aN_neighbours, .int N_posts])), (aN_neighbours, .inl (cI, 8, .inl N_neighbours))]) ⟨hx, hb, hml, hown, hts⟩ (c_X1_isLinked l dC dI cI cJ cZ cA aN aN_neighbours N_posts N_neighbours p0 p1 r4 e5) (cwV 2 hts gX6_part_X1_isLinked rfl rfl rfl (by decide +kernel) ⟨Nat.le_of_ble_eq_true rfl, Nat.le_of_ble_eq_true rfl⟩) hK hP hD hS hA [1, 2] [0] [0, 1, 2] 0 rfl rfl rfl rfl (by decide) rfl rfl rfl rfl rfl rfl hl.1 rfl (Nat.le_of_ble_eq_true rfl) dX6_part_18 ⟨Nat.zero_le _, Nat.zero_le _⟩ (fun H locs hP hD hS => ?_)
    refine lv_if_eq (tgt := 36) hx hb dX6_part_21 (by decide) (fun c6 => ?_) (fun c6 => ?_)
    · have h := ift c6 h
      refine lv_iconst (v := 0) hx hb dX6_part_36 (by decide) ?_
      obtain ⟨rfl, rfl⟩ := sj2 h
      exact hret _ _ _ _ _ rfl rfl hP hD hS dX6_part_37
    · have h := ifn c6 h
      refine lv_aload_n hx hb dX6_part_24 rfl (lv_at hl 0 rfl) ?_
      refine ka_get (v := .ref aN) (C := RX6) (T := TX6) (Nf := 8) (ref := "BeepNet") hx hb hts hiX6 hown hK hP 0 rfl rfl 1 (by decide) k_0 rfl rfl dX6_part_25 ?_
      refine lv_iload_n hx hb dX6_part_28 rfl (lv_at hl 1 rfl) ?_
      refine lv_iload_n hx hb dX6_part_29 rfl (lv_at hl 2 rfl) ?_
      obtain ⟨r7, N_neighbours_8, e9, h⟩ := bd2_s h
      refine kc_vi (rest := []) (wr := [(aB, .inr (6, [.ref aS, .ref aN, .ref aR, .ref aT, .ref aQ, .ref aK, .int B_latestFinding, .int B_latestFault]))]) (wF := [(aB, .inr (6, [.ref aS, .ref aN, .ref aR, .ref aT, .ref aQ, .ref aK, .int B_latestFinding, .int B_latestFault])), (aN, .inr (1, [.ref aN_neighbours, .int N_posts])), (aN_neighbours, .inl (cI, 8, .inl N_neighbours_8))]) ⟨hx, hb, hml, hown, hts⟩ (c_X1_toggle l dC dI cI cJ cZ cA aN aN_neighbours N_posts N_neighbours p0 p1 r7 N_neighbours_8 e9) (cwV 2 hts gX6_part_X1_toggle rfl rfl rfl (by decide +kernel) ⟨Nat.le_of_ble_eq_true rfl, Nat.le_of_ble_eq_true rfl⟩) hK hP hD hS hA [1, 2] [0] [0, 1, 2] 0 rfl rfl rfl rfl (by decide) rfl rfl rfl rfl rfl rfl hl.1 rfl (Nat.le_of_ble_eq_true rfl) dX6_part_30 ⟨Nat.zero_le _, Nat.zero_le _⟩ (fun H locs hP hD hS => ?_)
      refine lv_goto (tgt := 37) hx hb dX6_part_33 (by decide) ?_
      obtain ⟨rfl, rfl⟩ := sj2 h
      exact hret _ _ _ _ _ rfl rfl hP hD hS dX6_part_37
  · have h := ift c3 h
    refine lv_ldc hx hb hown k_1 dX6_part_9 ?_
    obtain ⟨rfl, rfl⟩ := sj2 h
    exact hret _ _ _ _ _ rfl rfl hP hD hS dX6_part_11
set_option maxHeartbeats 4000000 in
set_option maxRecDepth 100000 in
theorem c_X6_far (l : Launch) (dC : Nat → ClassId) (dI : Nat → Nat → Nat) (cI cJ cZ cA : ClassId) (aB aS aN aR aT aQ aK aN_neighbours : Nat) (B_latestFinding : Int32) (B_latestFault : Int32) (N_posts : Int32) (N_neighbours : Nat → Int32) (p0 : Int32) (p1 : Int32) (rr : Int32) (h : fX6_far N_posts N_neighbours p0 p1 = some rr) : Cti l yX6_far wsX6_far rmX6_far (dC, dI) (tyL cI cJ cZ cA) [(aB, .inr (6, [.ref aS, .ref aN, .ref aR, .ref aT, .ref aQ, .ref aK, .int B_latestFinding, .int B_latestFault])), (aN, .inr (1, [.ref aN_neighbours, .int N_posts])), (aN_neighbours, .inl (cI, 8, .inl N_neighbours))] [(aB, .inr (6, [.ref aS, .ref aN, .ref aR, .ref aT, .ref aQ, .ref aK, .int B_latestFinding, .int B_latestFault])), (aN, .inr (1, [.ref aN_neighbours, .int N_posts])), (aN_neighbours, .inl (cI, 8, .inl N_neighbours))] [.ref aB, .int p0, .int p1] rr := by
  refine ct_int (ty := .int) (cc := cX6_far) (maxL := 3) (by decide) rfl (Nat.le_of_ble_eq_true rfl) ?_
  intro p e s m args below meth c A Q ls hx hb hml hown hts hA hK hP hD hS hl hret
  have hl : lv_has ls 3 [(0, .ref aB), (1, .int p0), (2, .int p1)] := hl
  have k_0 := hts (.fieldLink RX6 19 "BeepNet" "net" "LBeepNet$Net;") (by decide +kernel)
  have k_1 := hts (.constant RX6 57 (-1000001)) (by decide +kernel)
  have hiX6 : ∀ w ∈ u_ws RX6 TX6 8, w ∈ wsX6_far := fun w hw => List.mem_cons_of_mem _ (List.mem_append_left _ (List.mem_append_right _ hw))
  unfold fX6_far at h
  refine lv_aload_n hx hb dX6_far_0 rfl (lv_at hl 0 rfl) ?_
  refine ka_get (v := .ref aN) (C := RX6) (T := TX6) (Nf := 8) (ref := "BeepNet") hx hb hts hiX6 hown hK hP 0 rfl rfl 1 (by decide) k_0 rfl rfl dX6_far_1 ?_
  refine lv_iload_n hx hb dX6_far_4 rfl (lv_at hl 1 rfl) ?_
  obtain ⟨r1, e2, h⟩ := bd1_s h
  refine kc_vi (rest := []) (wr := [(aB, .inr (6, [.ref aS, .ref aN, .ref aR, .ref aT, .ref aQ, .ref aK, .int B_latestFinding, .int B_latestFault])), (aN_neighbours, .inl (cI, 8, .inl N_neighbours))]) (wF := [(aB, .inr (6, [.ref aS, .ref aN, .ref aR, .ref aT, .ref aQ, .ref aK, .int B_latestFinding, .int B_latestFault])), (aN, .inr (1, [.ref aN_neighbours, .int N_posts])), (aN_neighbours, .inl (cI, 8, .inl N_neighbours))]) ⟨hx, hb, hml, hown, hts⟩ (c_X1_hasPost l dC dI cI cJ cZ cA aN aN_neighbours N_posts p0 r1 e2) (cwV 1 hts gX6_far_X1_hasPost rfl rfl rfl (by decide +kernel) ⟨Nat.le_of_ble_eq_true rfl, Nat.le_of_ble_eq_true rfl⟩) hK hP hD hS hA [1] [0, 2] [0, 2, 1] 0 rfl rfl rfl rfl (by decide) rfl rfl rfl rfl rfl rfl hl.1 rfl (Nat.le_of_ble_eq_true rfl) dX6_far_5 ⟨Nat.zero_le _, Nat.zero_le _⟩ (fun H locs hP hD hS => ?_)
  refine lv_if_eq (tgt := 22) hx hb dX6_far_8 (by decide) (fun c3 => ?_) (fun c3 => ?_)
  · have h := ift c3 h
    refine lv_ldc hx hb hown k_1 dX6_far_22 ?_
    obtain rfl := sj1 h
    exact hret _ _ _ _ _ rfl rfl hP hD hS dX6_far_24
  · have h := ifn c3 h
    refine lv_aload_n hx hb dX6_far_11 rfl (lv_at hl 0 rfl) ?_
    refine ka_get (v := .ref aN) (C := RX6) (T := TX6) (Nf := 8) (ref := "BeepNet") hx hb hts hiX6 hown hK hP 0 rfl rfl 1 (by decide) k_0 rfl rfl dX6_far_12 ?_
    refine lv_iload_n hx hb dX6_far_15 rfl (lv_at hl 2 rfl) ?_
    obtain ⟨r4, e5, h⟩ := bd1_s h
    refine kc_vi (rest := []) (wr := [(aB, .inr (6, [.ref aS, .ref aN, .ref aR, .ref aT, .ref aQ, .ref aK, .int B_latestFinding, .int B_latestFault])), (aN_neighbours, .inl (cI, 8, .inl N_neighbours))]) (wF := [(aB, .inr (6, [.ref aS, .ref aN, .ref aR, .ref aT, .ref aQ, .ref aK, .int B_latestFinding, .int B_latestFault])), (aN, .inr (1, [.ref aN_neighbours, .int N_posts])), (aN_neighbours, .inl (cI, 8, .inl N_neighbours))]) ⟨hx, hb, hml, hown, hts⟩ (c_X1_hasPost l dC dI cI cJ cZ cA aN aN_neighbours N_posts p1 r4 e5) (cwV 1 hts gX6_far_X1_hasPost rfl rfl rfl (by decide +kernel) ⟨Nat.le_of_ble_eq_true rfl, Nat.le_of_ble_eq_true rfl⟩) hK hP hD hS hA [1] [0, 2] [0, 2, 1] 0 rfl rfl rfl rfl (by decide) rfl rfl rfl rfl rfl rfl hl.1 rfl (Nat.le_of_ble_eq_true rfl) dX6_far_16 ⟨Nat.zero_le _, Nat.zero_le _⟩ (fun H locs hP hD hS => ?_)
    refine lv_if_ne (tgt := 25) hx hb dX6_far_19 (by decide) (fun c6 => ?_) (fun c6 => ?_)
    · have h := ifn c6 h
      refine lv_aload_n hx hb dX6_far_25 rfl (lv_at hl 0 rfl) ?_
      refine ka_get (v := .ref aN) (C := RX6) (T := TX6) (Nf := 8) (ref := "BeepNet") hx hb hts hiX6 hown hK hP 0 rfl rfl 1 (by decide) k_0 rfl rfl dX6_far_26 ?_
      refine lv_iload_n hx hb dX6_far_29 rfl (lv_at hl 1 rfl) ?_
      refine lv_iload_n hx hb dX6_far_30 rfl (lv_at hl 2 rfl) ?_
      obtain ⟨r7, e8, h⟩ := bd1_s h
      refine kc_vi (rest := []) (wr := [(aB, .inr (6, [.ref aS, .ref aN, .ref aR, .ref aT, .ref aQ, .ref aK, .int B_latestFinding, .int B_latestFault]))]) (wF := [(aB, .inr (6, [.ref aS, .ref aN, .ref aR, .ref aT, .ref aQ, .ref aK, .int B_latestFinding, .int B_latestFault])), (aN, .inr (1, [.ref aN_neighbours, .int N_posts])), (aN_neighbours, .inl (cI, 8, .inl N_neighbours))]) ⟨hx, hb, hml, hown, hts⟩ (c_X1_stepsBetween l dC dI cI cJ cZ cA aN aN_neighbours N_posts N_neighbours p0 p1 r7 e8) (cwV 2 hts gX6_far_X1_stepsBetween rfl rfl rfl (by decide +kernel) ⟨Nat.le_of_ble_eq_true rfl, Nat.le_of_ble_eq_true rfl⟩) hK hP hD hS hA [1, 2] [0] [0, 1, 2] 0 rfl rfl rfl rfl (by decide) rfl rfl rfl rfl rfl rfl hl.1 rfl (Nat.le_of_ble_eq_true rfl) dX6_far_31 ⟨Nat.zero_le _, Nat.zero_le _⟩ (fun H locs hP hD hS => ?_)
      obtain rfl := sj1 h
      exact hret _ _ _ _ _ rfl rfl hP hD hS dX6_far_34
    · have h := ift c6 h
      refine lv_ldc hx hb hown k_1 dX6_far_22 ?_
      obtain rfl := sj1 h
      exact hret _ _ _ _ _ rfl rfl hP hD hS dX6_far_24
