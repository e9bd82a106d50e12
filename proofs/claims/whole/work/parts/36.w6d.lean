set_option maxHeartbeats 4000000 in
set_option maxRecDepth 100000 in
theorem c_X6_trace (l : Launch) (dC : Nat → ClassId) (dI : Nat → Nat → Nat) (cI cJ cZ cA : ClassId) (aB aS aN aR aT aQ aK aK_begun : Nat) (B_latestFinding : Int32) (B_latestFault : Int32) (K_length : Int32) (K_begun : Nat → Int32) (p0 : Int32) (rr : Int32) (h : fX6_trace K_length K_begun p0 = some rr) : Cti l yX6_trace wsX6_trace rmX6_trace (dC, dI) (tyL cI cJ cZ cA) [(aB, .inr (6, [.ref aS, .ref aN, .ref aR, .ref aT, .ref aQ, .ref aK, .int B_latestFinding, .int B_latestFault])), (aK, .inr (0, [.ref aN, .ref aK_begun, .int K_length])), (aK_begun, .inl (cI, 16, .inl K_begun))] [(aB, .inr (6, [.ref aS, .ref aN, .ref aR, .ref aT, .ref aQ, .ref aK, .int B_latestFinding, .int B_latestFault])), (aK, .inr (0, [.ref aN, .ref aK_begun, .int K_length])), (aK_begun, .inl (cI, 16, .inl K_begun))] [.ref aB, .int p0] rr := by
  refine ct_int (ty := .int) (cc := cX6_trace) (maxL := 2) (by decide) rfl (Nat.le_of_ble_eq_true rfl) ?_
  intro p e s m args below meth c A Q ls hx hb hml hown hts hA hK hP hD hS hl hret
  have hl : lv_has ls 2 [(0, .ref aB), (1, .int p0)] := hl
  have k_0 := hts (.fieldLink RX6 49 "BeepNet" "asks" "LBeepNet$Asks;") (by decide +kernel)
  have hiX6 : ∀ w ∈ u_ws RX6 TX6 8, w ∈ wsX6_trace := fun w hw => List.mem_cons_of_mem _ (List.mem_append_left _ (List.mem_append_right _ hw))
  unfold fX6_trace at h
  refine lv_aload_n hx hb dX6_trace_0 rfl (lv_at hl 0 rfl) ?_
  refine ka_get (v := .ref aK) (C := RX6) (T := TX6) (Nf := 8) (ref := "BeepNet") hx hb hts hiX6 hown hK hP 0 rfl rfl 5 (by decide) k_0 rfl rfl dX6_trace_1 ?_
  refine lv_iload_n hx hb dX6_trace_4 rfl (lv_at hl 1 rfl) ?_
  obtain ⟨r1, e2, h⟩ := bd1_s h
  refine kc_vi (rest := []) (wr := [(aB, .inr (6, [.ref aS, .ref aN, .ref aR, .ref aT, .ref aQ, .ref aK, .int B_latestFinding, .int B_latestFault]))]) (wF := [(aB, .inr (6, [.ref aS, .ref aN, .ref aR, .ref aT, .ref aQ, .ref aK, .int B_latestFinding, .int B_latestFault])), (aK, .inr (0, [.ref aN, .ref aK_begun, .int K_length])), (aK_begun, .inl (cI, 16, .inl K_begun))]) ⟨hx, hb, hml, hown, hts⟩ (c_X0_begunBody l dC dI cI cJ cZ cA aK aN aK_begun K_length K_begun p0 r1 e2) (cwV 1 hts gX6_trace_X0_begunBody rfl rfl rfl (by decide +kernel) ⟨Nat.le_of_ble_eq_true rfl, Nat.le_of_ble_eq_true rfl⟩) hK hP hD hS hA [1, 2] [0] [0, 1, 2] 0 rfl rfl rfl rfl (by decide) rfl rfl rfl rfl rfl rfl hl.1 rfl (Nat.le_of_ble_eq_true rfl) dX6_trace_5 ⟨Nat.zero_le _, Nat.zero_le _⟩ (fun H locs hP hD hS => ?_)
  obtain rfl := sj1 h
  exact hret _ _ _ _ _ rfl rfl hP hD hS dX6_trace_8
set_option maxHeartbeats 4000000 in
set_option maxRecDepth 100000 in
theorem c_X6_count (l : Launch) (dC : Nat → ClassId) (dI : Nat → Nat → Nat) (cI cJ cZ cA : ClassId) (aB aS aN aR aT aQ aK aS_lanes aS_sizes aS_items aN_neighbours aR_tape aR_rounds aT_rounds : Nat) (B_latestFinding : Int32) (B_latestFault : Int32) (S_lanes : Nat → Int32) (N_posts : Int32) (N_neighbours : Nat → Int32) (R_length : Int32) (R_roundsRead : Int32) (R_token : Int32) (R_start : Int32) (R_behind : Int32) (R_number : Int32) (T_size : Int32) (p0 : Int32) (rr : Int32) (h : fX6_count S_lanes N_posts N_neighbours R_length T_size p0 = some rr) : Cti l yX6_count wsX6_count rmX6_count (dC, dI) (tyL cI cJ cZ cA) [(aB, .inr (6, [.ref aS, .ref aN, .ref aR, .ref aT, .ref aQ, .ref aK, .int B_latestFinding, .int B_latestFault])), (aS, .inr (4, [.ref aS_lanes, .ref aS_sizes, .ref aS_items])), (aS_lanes, .inl (cI, 8, .inl S_lanes)), (aN, .inr (1, [.ref aN_neighbours, .int N_posts])), (aN_neighbours, .inl (cI, 8, .inl N_neighbours)), (aR, .inr (2, [.ref aR_tape, .ref aR_rounds, .int R_length, .int R_roundsRead, .int R_token, .int R_start, .int R_behind, .int R_number])), (aT, .inr (5, [.ref aT_rounds, .int T_size]))] [(aB, .inr (6, [.ref aS, .ref aN, .ref aR, .ref aT, .ref aQ, .ref aK, .int B_latestFinding, .int B_latestFault])), (aS, .inr (4, [.ref aS_lanes, .ref aS_sizes, .ref aS_items])), (aS_lanes, .inl (cI, 8, .inl S_lanes)), (aN, .inr (1, [.ref aN_neighbours, .int N_posts])), (aN_neighbours, .inl (cI, 8, .inl N_neighbours)), (aR, .inr (2, [.ref aR_tape, .ref aR_rounds, .int R_length, .int R_roundsRead, .int R_token, .int R_start, .int R_behind, .int R_number])), (aT, .inr (5, [.ref aT_rounds, .int T_size]))] [.ref aB, .int p0] rr := by
  refine ct_int (ty := .int) (cc := cX6_count) (maxL := 2) (by decide) rfl (Nat.le_of_ble_eq_true rfl) ?_
  intro p e s m args below meth c A Q ls hx hb hml hown hts hA hK hP hD hS hl hret
  have hl : lv_has ls 2 [(0, .ref aB), (1, .int p0)] := hl
  have k_0 := hts (.fieldLink RX6 10 "BeepNet" "sheets" "LBeepNet$Sheets;") (by decide +kernel)
  have k_1 := hts (.fieldLink RX6 19 "BeepNet" "net" "LBeepNet$Net;") (by decide +kernel)
  have k_2 := hts (.fieldLink RX6 33 "BeepNet" "timetable" "LBeepNet$Timetable;") (by decide +kernel)
  have k_3 := hts (.fieldLink RX6 26 "BeepNet" "reader" "LBeepNet$Reader;") (by decide +kernel)
  have k_4 := hts (.constant RX6 57 (-1000001)) (by decide +kernel)
  have hiX6 : ∀ w ∈ u_ws RX6 TX6 8, w ∈ wsX6_count := fun w hw => List.mem_cons_of_mem _ (List.mem_append_left _ (List.mem_append_left _ (List.mem_append_left _ (List.mem_append_left _ (List.mem_append_right _ hw)))))
  unfold fX6_count at h
  refine lv_iload_n hx hb dX6_count_0 rfl (lv_at hl 1 rfl) ?_
  by_cases c1 : p0 = 0
  · have h := ift c1 h
    refine lv_tableIn (tgt := 48) hx hb dX6_count_1 (by rw [c1]; decide) (by rw [c1]; decide) (by rw [c1]; rfl) (by decide) ?_
    refine lv_aload_n hx hb dX6_count_48 rfl (lv_at hl 0 rfl) ?_
    refine ka_get (v := .ref aS) (C := RX6) (T := TX6) (Nf := 8) (ref := "BeepNet") hx hb hts hiX6 hown hK hP 0 rfl rfl 0 (by decide) k_0 rfl rfl dX6_count_49 ?_
    obtain ⟨r2, e3, h⟩ := bd1_s h
    refine kc_vi (rest := []) (wr := [(aB, .inr (6, [.ref aS, .ref aN, .ref aR, .ref aT, .ref aQ, .ref aK, .int B_latestFinding, .int B_latestFault])), (aN, .inr (1, [.ref aN_neighbours, .int N_posts])), (aN_neighbours, .inl (cI, 8, .inl N_neighbours)), (aR, .inr (2, [.ref aR_tape, .ref aR_rounds, .int R_length, .int R_roundsRead, .int R_token, .int R_start, .int R_behind, .int R_number])), (aT, .inr (5, [.ref aT_rounds, .int T_size]))]) (wF := [(aB, .inr (6, [.ref aS, .ref aN, .ref aR, .ref aT, .ref aQ, .ref aK, .int B_latestFinding, .int B_latestFault])), (aS, .inr (4, [.ref aS_lanes, .ref aS_sizes, .ref aS_items])), (aS_lanes, .inl (cI, 8, .inl S_lanes)), (aN, .inr (1, [.ref aN_neighbours, .int N_posts])), (aN_neighbours, .inl (cI, 8, .inl N_neighbours)), (aR, .inr (2, [.ref aR_tape, .ref aR_rounds, .int R_length, .int R_roundsRead, .int R_token, .int R_start, .int R_behind, .int R_number])), (aT, .inr (5, [.ref aT_rounds, .int T_size]))]) ⟨hx, hb, hml, hown, hts⟩ (c_X4_size l dC dI cI cJ cZ cA aS aS_lanes aS_sizes aS_items S_lanes r2 e3) (cwV 0 hts gX6_count_X4_size rfl rfl rfl (by decide +kernel) ⟨Nat.le_of_ble_eq_true rfl, Nat.le_of_ble_eq_true rfl⟩) hK hP hD hS hA [1, 2] [0, 3, 4, 5, 6] [0, 5, 6, 1, 2, 3, 4] 0 rfl rfl rfl rfl (by decide) rfl rfl rfl rfl rfl rfl hl.1 rfl (Nat.le_of_ble_eq_true rfl) dX6_count_52 ⟨Nat.zero_le _, Nat.zero_le _⟩ (fun H locs hP hD hS => ?_)
    obtain rfl := sj1 h
    exact hret _ _ _ _ _ rfl rfl hP hD hS dX6_count_55
  · have h := ifn c1 h
    by_cases c4 : p0 = 1
    · have h := ift c4 h
      refine lv_tableIn (tgt := 56) hx hb dX6_count_1 (by rw [c4]; decide) (by rw [c4]; decide) (by rw [c4]; rfl) (by decide) ?_
      refine lv_aload_n hx hb dX6_count_56 rfl (lv_at hl 0 rfl) ?_
      refine ka_get (v := .ref aN) (C := RX6) (T := TX6) (Nf := 8) (ref := "BeepNet") hx hb hts hiX6 hown hK hP 0 rfl rfl 1 (by decide) k_1 rfl rfl dX6_count_57 ?_
      obtain ⟨r5, e6, h⟩ := bd1_s h
      refine kc_vi (rest := []) (wr := [(aB, .inr (6, [.ref aS, .ref aN, .ref aR, .ref aT, .ref aQ, .ref aK, .int B_latestFinding, .int B_latestFault])), (aS, .inr (4, [.ref aS_lanes, .ref aS_sizes, .ref aS_items])), (aS_lanes, .inl (cI, 8, .inl S_lanes)), (aN_neighbours, .inl (cI, 8, .inl N_neighbours)), (aR, .inr (2, [.ref aR_tape, .ref aR_rounds, .int R_length, .int R_roundsRead, .int R_token, .int R_start, .int R_behind, .int R_number])), (aT, .inr (5, [.ref aT_rounds, .int T_size]))]) (wF := [(aB, .inr (6, [.ref aS, .ref aN, .ref aR, .ref aT, .ref aQ, .ref aK, .int B_latestFinding, .int B_latestFault])), (aS, .inr (4, [.ref aS_lanes, .ref aS_sizes, .ref aS_items])), (aS_lanes, .inl (cI, 8, .inl S_lanes)), (aN, .inr (1, [.ref aN_neighbours, .int N_posts])), (aN_neighbours, .inl (cI, 8, .inl N_neighbours)), (aR, .inr (2, [.ref aR_tape, .ref aR_rounds, .int R_length, .int R_roundsRead, .int R_token, .int R_start, .int R_behind, .int R_number])), (aT, .inr (5, [.ref aT_rounds, .int T_size]))]) ⟨hx, hb, hml, hown, hts⟩ (c_X1_size l dC dI cI cJ cZ cA aN aN_neighbours N_posts r5 e6) (cwV 0 hts gX6_count_X1_size rfl rfl rfl (by decide +kernel) ⟨Nat.le_of_ble_eq_true rfl, Nat.le_of_ble_eq_true rfl⟩) hK hP hD hS hA [3] [0, 1, 2, 4, 5, 6] [0, 1, 2, 6, 3, 4, 5] 0 rfl rfl rfl rfl (by decide) rfl rfl rfl rfl rfl rfl hl.1 rfl (Nat.le_of_ble_eq_true rfl) dX6_count_60 ⟨Nat.zero_le _, Nat.zero_le _⟩ (fun H locs hP hD hS => ?_)
      obtain rfl := sj1 h
      exact hret _ _ _ _ _ rfl rfl hP hD hS dX6_count_63
    · have h := ifn c4 h
      by_cases c7 : p0 = 2
      · have h := ift c7 h
        refine lv_tableIn (tgt := 64) hx hb dX6_count_1 (by rw [c7]; decide) (by rw [c7]; decide) (by rw [c7]; rfl) (by decide) ?_
        refine lv_aload_n hx hb dX6_count_64 rfl (lv_at hl 0 rfl) ?_
        refine ka_get (v := .ref aN) (C := RX6) (T := TX6) (Nf := 8) (ref := "BeepNet") hx hb hts hiX6 hown hK hP 0 rfl rfl 1 (by decide) k_1 rfl rfl dX6_count_65 ?_
        obtain ⟨r8, e9, h⟩ := bd1_s h
        refine kc_vi (rest := []) (wr := [(aB, .inr (6, [.ref aS, .ref aN, .ref aR, .ref aT, .ref aQ, .ref aK, .int B_latestFinding, .int B_latestFault])), (aS, .inr (4, [.ref aS_lanes, .ref aS_sizes, .ref aS_items])), (aS_lanes, .inl (cI, 8, .inl S_lanes)), (aR, .inr (2, [.ref aR_tape, .ref aR_rounds, .int R_length, .int R_roundsRead, .int R_token, .int R_start, .int R_behind, .int R_number])), (aT, .inr (5, [.ref aT_rounds, .int T_size]))]) (wF := [(aB, .inr (6, [.ref aS, .ref aN, .ref aR, .ref aT, .ref aQ, .ref aK, .int B_latestFinding, .int B_latestFault])), (aS, .inr (4, [.ref aS_lanes, .ref aS_sizes, .ref aS_items])), (aS_lanes, .inl (cI, 8, .inl S_lanes)), (aN, .inr (1, [.ref aN_neighbours, .int N_posts])), (aN_neighbours, .inl (cI, 8, .inl N_neighbours)), (aR, .inr (2, [.ref aR_tape, .ref aR_rounds, .int R_length, .int R_roundsRead, .int R_token, .int R_start, .int R_behind, .int R_number])), (aT, .inr (5, [.ref aT_rounds, .int T_size]))]) ⟨hx, hb, hml, hown, hts⟩ (c_X1_pairs l dC dI cI cJ cZ cA aN aN_neighbours N_posts N_neighbours r8 e9) (cwV 0 hts gX6_count_X1_pairs rfl rfl rfl (by decide +kernel) ⟨Nat.le_of_ble_eq_true rfl, Nat.le_of_ble_eq_true rfl⟩) hK hP hD hS hA [3, 4] [0, 1, 2, 5, 6] [0, 1, 2, 5, 6, 3, 4] 0 rfl rfl rfl rfl (by decide) rfl rfl rfl rfl rfl rfl hl.1 rfl (Nat.le_of_ble_eq_true rfl) dX6_count_68 ⟨Nat.zero_le _, Nat.zero_le _⟩ (fun H locs hP hD hS => ?_)
        obtain rfl := sj1 h
        exact hret _ _ _ _ _ rfl rfl hP hD hS dX6_count_71
      · have h := ifn c7 h
        by_cases c10 : p0 = 3
        · have h := ift c10 h
          refine lv_tableIn (tgt := 72) hx hb dX6_count_1 (by rw [c10]; decide) (by rw [c10]; decide) (by rw [c10]; rfl) (by decide) ?_
          refine lv_aload_n hx hb dX6_count_72 rfl (lv_at hl 0 rfl) ?_
          refine ka_get (v := .ref aT) (C := RX6) (T := TX6) (Nf := 8) (ref := "BeepNet") hx hb hts hiX6 hown hK hP 0 rfl rfl 3 (by decide) k_2 rfl rfl dX6_count_73 ?_
          obtain ⟨r11, e12, h⟩ := bd1_s h
          refine kc_vi (rest := []) (wr := [(aB, .inr (6, [.ref aS, .ref aN, .ref aR, .ref aT, .ref aQ, .ref aK, .int B_latestFinding, .int B_latestFault])), (aS, .inr (4, [.ref aS_lanes, .ref aS_sizes, .ref aS_items])), (aS_lanes, .inl (cI, 8, .inl S_lanes)), (aN, .inr (1, [.ref aN_neighbours, .int N_posts])), (aN_neighbours, .inl (cI, 8, .inl N_neighbours)), (aR, .inr (2, [.ref aR_tape, .ref aR_rounds, .int R_length, .int R_roundsRead, .int R_token, .int R_start, .int R_behind, .int R_number]))]) (wF := [(aB, .inr (6, [.ref aS, .ref aN, .ref aR, .ref aT, .ref aQ, .ref aK, .int B_latestFinding, .int B_latestFault])), (aS, .inr (4, [.ref aS_lanes, .ref aS_sizes, .ref aS_items])), (aS_lanes, .inl (cI, 8, .inl S_lanes)), (aN, .inr (1, [.ref aN_neighbours, .int N_posts])), (aN_neighbours, .inl (cI, 8, .inl N_neighbours)), (aR, .inr (2, [.ref aR_tape, .ref aR_rounds, .int R_length, .int R_roundsRead, .int R_token, .int R_start, .int R_behind, .int R_number])), (aT, .inr (5, [.ref aT_rounds, .int T_size]))]) ⟨hx, hb, hml, hown, hts⟩ (c_X5_size l dC dI cI cJ cZ cA aT aT_rounds T_size r11 e12) (cwV 0 hts gX6_count_X5_size rfl rfl rfl (by decide +kernel) ⟨Nat.le_of_ble_eq_true rfl, Nat.le_of_ble_eq_true rfl⟩) hK hP hD hS hA [6] [0, 1, 2, 3, 4, 5] [0, 1, 2, 3, 4, 5, 6] 0 rfl rfl rfl rfl (by decide) rfl rfl rfl rfl rfl rfl hl.1 rfl (Nat.le_of_ble_eq_true rfl) dX6_count_76 ⟨Nat.zero_le _, Nat.zero_le _⟩ (fun H locs hP hD hS => ?_)
          obtain rfl := sj1 h
          exact hret _ _ _ _ _ rfl rfl hP hD hS dX6_count_79
        · have h := ifn c10 h
          by_cases c13 : p0 = 4
          · have h := ift c13 h
            refine lv_tableIn (tgt := 80) hx hb dX6_count_1 (by rw [c13]; decide) (by rw [c13]; decide) (by rw [c13]; rfl) (by decide) ?_
            refine lv_aload_n hx hb dX6_count_80 rfl (lv_at hl 0 rfl) ?_
            refine ka_get (v := .ref aN) (C := RX6) (T := TX6) (Nf := 8) (ref := "BeepNet") hx hb hts hiX6 hown hK hP 0 rfl rfl 1 (by decide) k_1 rfl rfl dX6_count_81 ?_
            refine lv_iconst (v := 2) hx hb dX6_count_84 (by decide) ?_
            obtain ⟨r14, e15, h⟩ := bd1_s h
            refine kc_vi (rest := []) (wr := [(aB, .inr (6, [.ref aS, .ref aN, .ref aR, .ref aT, .ref aQ, .ref aK, .int B_latestFinding, .int B_latestFault])), (aS, .inr (4, [.ref aS_lanes, .ref aS_sizes, .ref aS_items])), (aS_lanes, .inl (cI, 8, .inl S_lanes)), (aR, .inr (2, [.ref aR_tape, .ref aR_rounds, .int R_length, .int R_roundsRead, .int R_token, .int R_start, .int R_behind, .int R_number])), (aT, .inr (5, [.ref aT_rounds, .int T_size]))]) (wF := [(aB, .inr (6, [.ref aS, .ref aN, .ref aR, .ref aT, .ref aQ, .ref aK, .int B_latestFinding, .int B_latestFault])), (aS, .inr (4, [.ref aS_lanes, .ref aS_sizes, .ref aS_items])), (aS_lanes, .inl (cI, 8, .inl S_lanes)), (aN, .inr (1, [.ref aN_neighbours, .int N_posts])), (aN_neighbours, .inl (cI, 8, .inl N_neighbours)), (aR, .inr (2, [.ref aR_tape, .ref aR_rounds, .int R_length, .int R_roundsRead, .int R_token, .int R_start, .int R_behind, .int R_number])), (aT, .inr (5, [.ref aT_rounds, .int T_size]))]) ⟨hx, hb, hml, hown, hts⟩ (c_X1_countOf l dC dI cI cJ cZ cA aN aN_neighbours N_posts N_neighbours 2 r14 e15) (cwV 1 hts gX6_count_X1_countOf rfl rfl rfl (by decide +kernel) ⟨Nat.le_of_ble_eq_true rfl, Nat.le_of_ble_eq_true rfl⟩) hK hP hD hS hA [3, 4] [0, 1, 2, 5, 6] [0, 1, 2, 5, 6, 3, 4] 0 rfl rfl rfl rfl (by decide) rfl rfl rfl rfl rfl rfl hl.1 rfl (Nat.le_of_ble_eq_true rfl) dX6_count_85 ⟨Nat.zero_le _, Nat.zero_le _⟩ (fun H locs hP hD hS => ?_)
            obtain rfl := sj1 h
            exact hret _ _ _ _ _ rfl rfl hP hD hS dX6_count_88
          · have h := ifn c13 h
            by_cases c16 : p0 = 5
            · have h := ift c16 h
              refine lv_tableIn (tgt := 89) hx hb dX6_count_1 (by rw [c16]; decide) (by rw [c16]; decide) (by rw [c16]; rfl) (by decide) ?_
              refine lv_aload_n hx hb dX6_count_89 rfl (lv_at hl 0 rfl) ?_
              refine ka_get (v := .ref aN) (C := RX6) (T := TX6) (Nf := 8) (ref := "BeepNet") hx hb hts hiX6 hown hK hP 0 rfl rfl 1 (by decide) k_1 rfl rfl dX6_count_90 ?_
              refine lv_iconst (v := 3) hx hb dX6_count_93 (by decide) ?_
              obtain ⟨r17, e18, h⟩ := bd1_s h
              refine kc_vi (rest := []) (wr := [(aB, .inr (6, [.ref aS, .ref aN, .ref aR, .ref aT, .ref aQ, .ref aK, .int B_latestFinding, .int B_latestFault])), (aS, .inr (4, [.ref aS_lanes, .ref aS_sizes, .ref aS_items])), (aS_lanes, .inl (cI, 8, .inl S_lanes)), (aR, .inr (2, [.ref aR_tape, .ref aR_rounds, .int R_length, .int R_roundsRead, .int R_token, .int R_start, .int R_behind, .int R_number])), (aT, .inr (5, [.ref aT_rounds, .int T_size]))]) (wF := [(aB, .inr (6, [.ref aS, .ref aN, .ref aR, .ref aT, .ref aQ, .ref aK, .int B_latestFinding, .int B_latestFault])), (aS, .inr (4, [.ref aS_lanes, .ref aS_sizes, .ref aS_items])), (aS_lanes, .inl (cI, 8, .inl S_lanes)), (aN, .inr (1, [.ref aN_neighbours, .int N_posts])), (aN_neighbours, .inl (cI, 8, .inl N_neighbours)), (aR, .inr (2, [.ref aR_tape, .ref aR_rounds, .int R_length, .int R_roundsRead, .int R_token, .int R_start, .int R_behind, .int R_number])), (aT, .inr (5, [.ref aT_rounds, .int T_size]))]) ⟨hx, hb, hml, hown, hts⟩ (c_X1_countOf l dC dI cI cJ cZ cA aN aN_neighbours N_posts N_neighbours 3 r17 e18) (cwV 1 hts gX6_count_X1_countOf rfl rfl rfl (by decide +kernel) ⟨Nat.le_of_ble_eq_true rfl, Nat.le_of_ble_eq_true rfl⟩) hK hP hD hS hA [3, 4] [0, 1, 2, 5, 6] [0, 1, 2, 5, 6, 3, 4] 0 rfl rfl rfl rfl (by decide) rfl rfl rfl rfl rfl rfl hl.1 rfl (Nat.le_of_ble_eq_true rfl) dX6_count_94 ⟨Nat.zero_le _, Nat.zero_le _⟩ (fun H locs hP hD hS => ?_)
              obtain rfl := sj1 h
              exact hret _ _ _ _ _ rfl rfl hP hD hS dX6_count_97
            · have h := ifn c16 h
              by_cases c19 : p0 = 6
              · have h := ift c19 h
                refine lv_tableIn (tgt := 98) hx hb dX6_count_1 (by rw [c19]; decide) (by rw [c19]; decide) (by rw [c19]; rfl) (by decide) ?_
                refine lv_aload_n hx hb dX6_count_98 rfl (lv_at hl 0 rfl) ?_
                refine ka_get (v := .ref aN) (C := RX6) (T := TX6) (Nf := 8) (ref := "BeepNet") hx hb hts hiX6 hown hK hP 0 rfl rfl 1 (by decide) k_1 rfl rfl dX6_count_99 ?_
                refine lv_iconst (v := 4) hx hb dX6_count_102 (by decide) ?_
                obtain ⟨r20, e21, h⟩ := bd1_s h
                refine kc_vi (rest := []) (wr := [(aB, .inr (6, [.ref aS, .ref aN, .ref aR, .ref aT, .ref aQ, .ref aK, .int B_latestFinding, .int B_latestFault])), (aS, .inr (4, [.ref aS_lanes, .ref aS_sizes, .ref aS_items])), (aS_lanes, .inl (cI, 8, .inl S_lanes)), (aR, .inr (2, [.ref aR_tape, .ref aR_rounds, .int R_length, .int R_roundsRead, .int R_token, .int R_start, .int R_behind, .int R_number])), (aT, .inr (5, [.ref aT_rounds, .int T_size]))]) (wF := [(aB, .inr (6, [.ref aS, .ref aN, .ref aR, .ref aT, .ref aQ, .ref aK, .int B_latestFinding, .int B_latestFault])), (aS, .inr (4, [.ref aS_lanes, .ref aS_sizes, .ref aS_items])), (aS_lanes, .inl (cI, 8, .inl S_lanes)), (aN, .inr (1, [.ref aN_neighbours, .int N_posts])), (aN_neighbours, .inl (cI, 8, .inl N_neighbours)), (aR, .inr (2, [.ref aR_tape, .ref aR_rounds, .int R_length, .int R_roundsRead, .int R_token, .int R_start, .int R_behind, .int R_number])), (aT, .inr (5, [.ref aT_rounds, .int T_size]))]) ⟨hx, hb, hml, hown, hts⟩ (c_X1_countOf l dC dI cI cJ cZ cA aN aN_neighbours N_posts N_neighbours 4 r20 e21) (cwV 1 hts gX6_count_X1_countOf rfl rfl rfl (by decide +kernel) ⟨Nat.le_of_ble_eq_true rfl, Nat.le_of_ble_eq_true rfl⟩) hK hP hD hS hA [3, 4] [0, 1, 2, 5, 6] [0, 1, 2, 5, 6, 3, 4] 0 rfl rfl rfl rfl (by decide) rfl rfl rfl rfl rfl rfl hl.1 rfl (Nat.le_of_ble_eq_true rfl) dX6_count_103 ⟨Nat.zero_le _, Nat.zero_le _⟩ (fun H locs hP hD hS => ?_)
                obtain rfl := sj1 h
                exact hret _ _ _ _ _ rfl rfl hP hD hS dX6_count_106
              · have h := ifn c19 h
                by_cases c22 : p0 = 7
                · have h := ift c22 h
                  refine lv_tableIn (tgt := 107) hx hb dX6_count_1 (by rw [c22]; decide) (by rw [c22]; decide) (by rw [c22]; rfl) (by decide) ?_
                  refine lv_aload_n hx hb dX6_count_107 rfl (lv_at hl 0 rfl) ?_
                  refine ka_get (v := .ref aR) (C := RX6) (T := TX6) (Nf := 8) (ref := "BeepNet") hx hb hts hiX6 hown hK hP 0 rfl rfl 2 (by decide) k_3 rfl rfl dX6_count_108 ?_
                  obtain ⟨r23, e24, h⟩ := bd1_s h
                  refine kc_vi (rest := []) (wr := [(aB, .inr (6, [.ref aS, .ref aN, .ref aR, .ref aT, .ref aQ, .ref aK, .int B_latestFinding, .int B_latestFault])), (aS, .inr (4, [.ref aS_lanes, .ref aS_sizes, .ref aS_items])), (aS_lanes, .inl (cI, 8, .inl S_lanes)), (aN, .inr (1, [.ref aN_neighbours, .int N_posts])), (aN_neighbours, .inl (cI, 8, .inl N_neighbours)), (aT, .inr (5, [.ref aT_rounds, .int T_size]))]) (wF := [(aB, .inr (6, [.ref aS, .ref aN, .ref aR, .ref aT, .ref aQ, .ref aK, .int B_latestFinding, .int B_latestFault])), (aS, .inr (4, [.ref aS_lanes, .ref aS_sizes, .ref aS_items])), (aS_lanes, .inl (cI, 8, .inl S_lanes)), (aN, .inr (1, [.ref aN_neighbours, .int N_posts])), (aN_neighbours, .inl (cI, 8, .inl N_neighbours)), (aR, .inr (2, [.ref aR_tape, .ref aR_rounds, .int R_length, .int R_roundsRead, .int R_token, .int R_start, .int R_behind, .int R_number])), (aT, .inr (5, [.ref aT_rounds, .int T_size]))]) ⟨hx, hb, hml, hown, hts⟩ (c_X2_size l dC dI cI cJ cZ cA aR aR_tape aR_rounds R_length R_roundsRead R_token R_start R_behind R_number r23 e24) (cwV 0 hts gX6_count_X2_size rfl rfl rfl (by decide +kernel) ⟨Nat.le_of_ble_eq_true rfl, Nat.le_of_ble_eq_true rfl⟩) hK hP hD hS hA [5] [0, 1, 2, 3, 4, 6] [0, 1, 2, 3, 4, 6, 5] 0 rfl rfl rfl rfl (by decide) rfl rfl rfl rfl rfl rfl hl.1 rfl (Nat.le_of_ble_eq_true rfl) dX6_count_111 ⟨Nat.zero_le _, Nat.zero_le _⟩ (fun H locs hP hD hS => ?_)
                  obtain rfl := sj1 h
                  exact hret _ _ _ _ _ rfl rfl hP hD hS dX6_count_114
                · have h := ifn c22 h
                  refine lv_tableOut (tgt := 115) hx hb dX6_count_1 (sw_out0_7 c1 c4 c7 c10 c13 c16 c19 c22) (by decide) ?_
                  refine lv_ldc hx hb hown k_4 dX6_count_115 ?_
                  obtain rfl := sj1 h
                  exact hret _ _ _ _ _ rfl rfl hP hD hS dX6_count_117
set_option maxHeartbeats 4000000 in
set_option maxRecDepth 100000 in
theorem c_X6_status (l : Launch) (dC : Nat → ClassId) (dI : Nat → Nat → Nat) (cI cJ cZ cA : ClassId) (aB aS aN aR aT aQ aK : Nat) (B_latestFinding : Int32) (B_latestFault : Int32) (rr : Int32) (h : fX6_status B_latestFinding = some rr) : Cti l yX6_status wsX6_status rmX6_status (dC, dI) (tyL cI cJ cZ cA) [(aB, .inr (6, [.ref aS, .ref aN, .ref aR, .ref aT, .ref aQ, .ref aK, .int B_latestFinding, .int B_latestFault]))] [(aB, .inr (6, [.ref aS, .ref aN, .ref aR, .ref aT, .ref aQ, .ref aK, .int B_latestFinding, .int B_latestFault]))] [.ref aB] rr := by
  refine ct_int (ty := .int) (cc := cX6_status) (maxL := 1) (by decide) rfl (Nat.le_of_ble_eq_true rfl) ?_
  intro p e s m args below meth c A Q ls hx hb hml hown hts hA hK hP hD hS hl hret
  have hl : lv_has ls 1 [(0, .ref aB)] := hl
  have k_0 := hts (.fieldLink RX6 58 "BeepNet" "latestFinding" "I") (by decide +kernel)
  have hiX6 : ∀ w ∈ u_ws RX6 TX6 8, w ∈ wsX6_status := fun w hw => List.mem_cons_of_mem _ (List.mem_append_right _ hw)
  unfold fX6_status at h
  refine lv_aload_n hx hb dX6_status_0 rfl (lv_at hl 0 rfl) ?_
  refine ka_get (v := .int B_latestFinding) (C := RX6) (T := TX6) (Nf := 8) (ref := "BeepNet") hx hb hts hiX6 hown hK hP 0 rfl rfl 6 (by decide) k_0 rfl rfl dX6_status_1 ?_
  obtain rfl := sj1 h
  exact hret _ _ _ _ _ rfl rfl hP hD hS dX6_status_4
