set_option maxHeartbeats 4000000 in
set_option maxRecDepth 100000 in
theorem c_X6_jammed (l : Launch) (dC : Nat → ClassId) (dI : Nat → Nat → Nat) (cI cJ cZ cA : ClassId) (aB aS aN aR aT aQ aK aN_neighbours aT_rounds aQ_heard aQ_fewest aQ_spent aQ_cases : Nat) (B_latestFinding : Int32) (B_latestFault : Int32) (N_posts : Int32) (N_neighbours : Nat → Int32) (T_size : Int32) (T_rounds : Nat → Int32) (Q_heard : Nat → Int32) (Q_spent : Nat → Int32) (p0 : Int32) (p1 : Int32) (p2 : Int32) (rr : Int32) (Q_heard_z : Nat → Int32) (Q_spent_z : Nat → Int32) (h : fX6_jammed N_posts N_neighbours T_size T_rounds Q_heard Q_spent p0 p1 p2 = some (rr, Q_heard_z, Q_spent_z)) : Cti l yX6_jammed wsX6_jammed rmX6_jammed (dC, dI) (tyL cI cJ cZ cA) [(aB, .inr (6, [.ref aS, .ref aN, .ref aR, .ref aT, .ref aQ, .ref aK, .int B_latestFinding, .int B_latestFault])), (aN, .inr (1, [.ref aN_neighbours, .int N_posts])), (aN_neighbours, .inl (cI, 8, .inl N_neighbours)), (aT, .inr (5, [.ref aT_rounds, .int T_size])), (aT_rounds, .inl (cI, 20, .inl T_rounds)), (aQ, .inr (3, [.ref aQ_heard, .ref aQ_fewest, .ref aQ_spent, .ref aQ_cases])), (aQ_heard, .inl (cI, 256, .inl Q_heard)), (aQ_spent, .inl (cI, 256, .inl Q_spent))] [(aB, .inr (6, [.ref aS, .ref aN, .ref aR, .ref aT, .ref aQ, .ref aK, .int B_latestFinding, .int B_latestFault])), (aN, .inr (1, [.ref aN_neighbours, .int N_posts])), (aN_neighbours, .inl (cI, 8, .inl N_neighbours)), (aT, .inr (5, [.ref aT_rounds, .int T_size])), (aT_rounds, .inl (cI, 20, .inl T_rounds)), (aQ, .inr (3, [.ref aQ_heard, .ref aQ_fewest, .ref aQ_spent, .ref aQ_cases])), (aQ_heard, .inl (cI, 256, .inl Q_heard_z)), (aQ_spent, .inl (cI, 256, .inl Q_spent_z))] [.ref aB, .int p0, .int p1, .int p2] rr := by
  refine ct_int (ty := .int) (cc := cX6_jammed) (maxL := 4) (by decide) rfl (Nat.le_of_ble_eq_true rfl) ?_
  intro p e s m args below meth c A Q ls hx hb hml hown hts hA hK hP hD hS hl hret
  have hl : lv_has ls 4 [(0, .ref aB), (1, .int p0), (2, .int p1), (3, .int p2)] := hl
  have k_0 := hts (.constant RX6 57 (-1000001)) (by decide +kernel)
  have k_1 := hts (.fieldLink RX6 19 "BeepNet" "net" "LBeepNet$Net;") (by decide +kernel)
  have k_2 := hts (.fieldLink RX6 33 "BeepNet" "timetable" "LBeepNet$Timetable;") (by decide +kernel)
  have k_3 := hts (.fieldLink RX6 40 "BeepNet" "search" "LBeepNet$Search;") (by decide +kernel)
  have k_4 := hts (.constant RX6 174 (-1000002)) (by decide +kernel)
  have hiX6 : ∀ w ∈ u_ws RX6 TX6 8, w ∈ wsX6_jammed := fun w hw => List.mem_cons_of_mem _ (List.mem_append_left _ (List.mem_append_left _ (List.mem_append_left _ (List.mem_append_right _ hw))))
  unfold fX6_jammed at h
  refine lv_iload_n hx hb dX6_jammed_0 rfl (lv_at hl 1 rfl) ?_
  obtain ⟨r1, e2, h⟩ := bd1_s h
  refine kc_si (rest := []) (wr := [(aB, .inr (6, [.ref aS, .ref aN, .ref aR, .ref aT, .ref aQ, .ref aK, .int B_latestFinding, .int B_latestFault])), (aN, .inr (1, [.ref aN_neighbours, .int N_posts])), (aN_neighbours, .inl (cI, 8, .inl N_neighbours)), (aT, .inr (5, [.ref aT_rounds, .int T_size])), (aT_rounds, .inl (cI, 20, .inl T_rounds)), (aQ, .inr (3, [.ref aQ_heard, .ref aQ_fewest, .ref aQ_spent, .ref aQ_cases])), (aQ_heard, .inl (cI, 256, .inl Q_heard)), (aQ_spent, .inl (cI, 256, .inl Q_spent))]) (wF := [(aB, .inr (6, [.ref aS, .ref aN, .ref aR, .ref aT, .ref aQ, .ref aK, .int B_latestFinding, .int B_latestFault])), (aN, .inr (1, [.ref aN_neighbours, .int N_posts])), (aN_neighbours, .inl (cI, 8, .inl N_neighbours)), (aT, .inr (5, [.ref aT_rounds, .int T_size])), (aT_rounds, .inl (cI, 20, .inl T_rounds)), (aQ, .inr (3, [.ref aQ_heard, .ref aQ_fewest, .ref aQ_spent, .ref aQ_cases])), (aQ_heard, .inl (cI, 256, .inl Q_heard)), (aQ_spent, .inl (cI, 256, .inl Q_spent))]) ⟨hx, hb, hml, hown, hts⟩ (c_X6_isHearing l dC dI cI cJ cZ cA p0 r1 e2) (va_cwS 1 hts gX6_jammed_X6_isHearing rfl rfl rfl (by decide +kernel) ⟨Nat.le_of_ble_eq_true rfl, Nat.le_of_ble_eq_true rfl⟩) hK hP hD hS hA [] [0, 1, 2, 3, 4, 5, 6, 7] [0, 1, 2, 3, 4, 5, 6, 7] rfl rfl rfl rfl (by decide) rfl rfl rfl hl.1 rfl (Nat.le_of_ble_eq_true rfl) dX6_jammed_1 ⟨Nat.zero_le _, Nat.zero_le _⟩ (fun H locs hP hD hS => ?_)
  refine lv_if_eq (tgt := 27) hx hb dX6_jammed_4 (by decide) (fun c3 => ?_) (fun c3 => ?_)
  · have h := ift c3 h
    refine lv_ldc hx hb hown k_0 dX6_jammed_27 ?_
    obtain ⟨rfl, rfl, rfl⟩ := sj3 h
    exact hret _ _ _ _ _ rfl rfl hP hD hS dX6_jammed_29
  · have h := ifn c3 h
    refine lv_aload_n hx hb dX6_jammed_7 rfl (lv_at hl 0 rfl) ?_
    refine ka_get (v := .ref aN) (C := RX6) (T := TX6) (Nf := 8) (ref := "BeepNet") hx hb hts hiX6 hown hK hP 0 rfl rfl 1 (by decide) k_1 rfl rfl dX6_jammed_8 ?_
    refine lv_iload_n hx hb dX6_jammed_11 rfl (lv_at hl 2 rfl) ?_
    obtain ⟨r4, e5, h⟩ := bd1_s h
    refine kc_vi (rest := []) (wr := [(aB, .inr (6, [.ref aS, .ref aN, .ref aR, .ref aT, .ref aQ, .ref aK, .int B_latestFinding, .int B_latestFault])), (aN_neighbours, .inl (cI, 8, .inl N_neighbours)), (aT, .inr (5, [.ref aT_rounds, .int T_size])), (aT_rounds, .inl (cI, 20, .inl T_rounds)), (aQ, .inr (3, [.ref aQ_heard, .ref aQ_fewest, .ref aQ_spent, .ref aQ_cases])), (aQ_heard, .inl (cI, 256, .inl Q_heard)), (aQ_spent, .inl (cI, 256, .inl Q_spent))]) (wF := [(aB, .inr (6, [.ref aS, .ref aN, .ref aR, .ref aT, .ref aQ, .ref aK, .int B_latestFinding, .int B_latestFault])), (aN, .inr (1, [.ref aN_neighbours, .int N_posts])), (aN_neighbours, .inl (cI, 8, .inl N_neighbours)), (aT, .inr (5, [.ref aT_rounds, .int T_size])), (aT_rounds, .inl (cI, 20, .inl T_rounds)), (aQ, .inr (3, [.ref aQ_heard, .ref aQ_fewest, .ref aQ_spent, .ref aQ_cases])), (aQ_heard, .inl (cI, 256, .inl Q_heard)), (aQ_spent, .inl (cI, 256, .inl Q_spent))]) ⟨hx, hb, hml, hown, hts⟩ (c_X1_hasPost l dC dI cI cJ cZ cA aN aN_neighbours N_posts p1 r4 e5) (cwV 1 hts gX6_jammed_X1_hasPost rfl rfl rfl (by decide +kernel) ⟨Nat.le_of_ble_eq_true rfl, Nat.le_of_ble_eq_true rfl⟩) hK hP hD hS hA [1] [0, 2, 3, 4, 5, 6, 7] [0, 7, 1, 2, 3, 4, 5, 6] 0 rfl rfl rfl rfl (by decide) rfl rfl rfl rfl rfl rfl hl.1 rfl (Nat.le_of_ble_eq_true rfl) dX6_jammed_12 ⟨Nat.zero_le _, Nat.zero_le _⟩ (fun H locs hP hD hS => ?_)
    refine lv_if_eq (tgt := 27) hx hb dX6_jammed_15 (by decide) (fun c6 => ?_) (fun c6 => ?_)
    · have h := ift c6 h
      refine lv_ldc hx hb hown k_0 dX6_jammed_27 ?_
      obtain ⟨rfl, rfl, rfl⟩ := sj3 h
      exact hret _ _ _ _ _ rfl rfl hP hD hS dX6_jammed_29
    · have h := ifn c6 h
      refine lv_iload_n hx hb dX6_jammed_18 rfl (lv_at hl 3 rfl) ?_
      refine lv_if_lt (tgt := 27) hx hb dX6_jammed_19 (by decide) (fun c7 => ?_) (fun c7 => ?_)
      · have h := ift c7 h
        refine lv_ldc hx hb hown k_0 dX6_jammed_27 ?_
        obtain ⟨rfl, rfl, rfl⟩ := sj3 h
        exact hret _ _ _ _ _ rfl rfl hP hD hS dX6_jammed_29
      · have h := ifn c7 h
        refine lv_iload_n hx hb dX6_jammed_22 rfl (lv_at hl 3 rfl) ?_
        refine lv_iconst (v := 5) hx hb dX6_jammed_23 (by decide) ?_
        refine lv_icmp_le (tgt := 30) hx hb dX6_jammed_24 (by decide) (fun c8 => ?_) (fun c8 => ?_)
        · have h := ift c8 h
          refine lv_aload_n hx hb dX6_jammed_30 rfl (lv_at hl 0 rfl) ?_
          refine ka_get (v := .ref aT) (C := RX6) (T := TX6) (Nf := 8) (ref := "BeepNet") hx hb hts hiX6 hown hK hP 0 rfl rfl 3 (by decide) k_2 rfl rfl dX6_jammed_31 ?_
          obtain ⟨r9, e10, h⟩ := bd1_s h
          refine kc_vi (rest := []) (wr := [(aB, .inr (6, [.ref aS, .ref aN, .ref aR, .ref aT, .ref aQ, .ref aK, .int B_latestFinding, .int B_latestFault])), (aN, .inr (1, [.ref aN_neighbours, .int N_posts])), (aN_neighbours, .inl (cI, 8, .inl N_neighbours)), (aT_rounds, .inl (cI, 20, .inl T_rounds)), (aQ, .inr (3, [.ref aQ_heard, .ref aQ_fewest, .ref aQ_spent, .ref aQ_cases])), (aQ_heard, .inl (cI, 256, .inl Q_heard)), (aQ_spent, .inl (cI, 256, .inl Q_spent))]) (wF := [(aB, .inr (6, [.ref aS, .ref aN, .ref aR, .ref aT, .ref aQ, .ref aK, .int B_latestFinding, .int B_latestFault])), (aN, .inr (1, [.ref aN_neighbours, .int N_posts])), (aN_neighbours, .inl (cI, 8, .inl N_neighbours)), (aT, .inr (5, [.ref aT_rounds, .int T_size])), (aT_rounds, .inl (cI, 20, .inl T_rounds)), (aQ, .inr (3, [.ref aQ_heard, .ref aQ_fewest, .ref aQ_spent, .ref aQ_cases])), (aQ_heard, .inl (cI, 256, .inl Q_heard)), (aQ_spent, .inl (cI, 256, .inl Q_spent))]) ⟨hx, hb, hml, hown, hts⟩ (c_X5_size l dC dI cI cJ cZ cA aT aT_rounds T_size r9 e10) (cwV 0 hts gX6_jammed_X5_size rfl rfl rfl (by decide +kernel) ⟨Nat.le_of_ble_eq_true rfl, Nat.le_of_ble_eq_true rfl⟩) hK hP hD hS hA [3] [0, 1, 2, 4, 5, 6, 7] [0, 1, 2, 7, 3, 4, 5, 6] 0 rfl rfl rfl rfl (by decide) rfl rfl rfl rfl rfl rfl hl.1 rfl (Nat.le_of_ble_eq_true rfl) dX6_jammed_34 ⟨Nat.zero_le _, Nat.zero_le _⟩ (fun H locs hP hD hS => ?_)
          refine lv_if_ne (tgt := 43) hx hb dX6_jammed_37 (by decide) (fun c11 => ?_) (fun c11 => ?_)
          · have h := ifn c11 h
            refine lv_aload_n hx hb dX6_jammed_43 rfl (lv_at hl 0 rfl) ?_
            refine ka_get (v := .ref aQ) (C := RX6) (T := TX6) (Nf := 8) (ref := "BeepNet") hx hb hts hiX6 hown hK hP 0 rfl rfl 4 (by decide) k_3 rfl rfl dX6_jammed_44 ?_
            refine lv_aload_n hx hb dX6_jammed_47 rfl (lv_at hl 0 rfl) ?_
            refine ka_get (v := .ref aN) (C := RX6) (T := TX6) (Nf := 8) (ref := "BeepNet") hx hb hts hiX6 hown hK hP 0 rfl rfl 1 (by decide) k_1 rfl rfl dX6_jammed_48 ?_
            refine lv_iload_n hx hb dX6_jammed_51 rfl (lv_at hl 1 rfl) ?_
            obtain ⟨Q_heard_12, e13, h⟩ := bd1_s h
            refine kc_vv (rest := []) (wr := [(aB, .inr (6, [.ref aS, .ref aN, .ref aR, .ref aT, .ref aQ, .ref aK, .int B_latestFinding, .int B_latestFault])), (aT, .inr (5, [.ref aT_rounds, .int T_size])), (aT_rounds, .inl (cI, 20, .inl T_rounds)), (aQ_spent, .inl (cI, 256, .inl Q_spent))]) (wF := [(aB, .inr (6, [.ref aS, .ref aN, .ref aR, .ref aT, .ref aQ, .ref aK, .int B_latestFinding, .int B_latestFault])), (aN, .inr (1, [.ref aN_neighbours, .int N_posts])), (aN_neighbours, .inl (cI, 8, .inl N_neighbours)), (aT, .inr (5, [.ref aT_rounds, .int T_size])), (aT_rounds, .inl (cI, 20, .inl T_rounds)), (aQ, .inr (3, [.ref aQ_heard, .ref aQ_fewest, .ref aQ_spent, .ref aQ_cases])), (aQ_heard, .inl (cI, 256, .inl Q_heard_12)), (aQ_spent, .inl (cI, 256, .inl Q_spent))]) ⟨hx, hb, hml, hown, hts⟩ (c_X3_listen l dC dI cI cJ cZ cA aN aN_neighbours aQ aQ_heard aQ_fewest aQ_spent aQ_cases N_posts N_neighbours Q_heard p0 Q_heard_12 e13) (cwV 2 hts gX6_jammed_X3_listen rfl rfl rfl (by decide +kernel) ⟨Nat.le_of_ble_eq_true rfl, Nat.le_of_ble_eq_true rfl⟩) hK hP hD hS hA [1, 2, 5, 6] [0, 3, 4, 7] [0, 4, 5, 1, 2, 6, 7, 3] 2 rfl rfl rfl rfl (by decide) rfl rfl rfl rfl rfl rfl hl.1 rfl (Nat.le_of_ble_eq_true rfl) dX6_jammed_52 ⟨Nat.zero_le _, Nat.zero_le _⟩ (fun H locs hP hD hS => ?_)
            refine lv_aload_n hx hb dX6_jammed_55 rfl (lv_at hl 0 rfl) ?_
            refine ka_get (v := .ref aQ) (C := RX6) (T := TX6) (Nf := 8) (ref := "BeepNet") hx hb hts hiX6 hown hK hP 0 rfl rfl 4 (by decide) k_3 rfl rfl dX6_jammed_56 ?_
            refine lv_aload_n hx hb dX6_jammed_59 rfl (lv_at hl 0 rfl) ?_
            refine ka_get (v := .ref aN) (C := RX6) (T := TX6) (Nf := 8) (ref := "BeepNet") hx hb hts hiX6 hown hK hP 0 rfl rfl 1 (by decide) k_1 rfl rfl dX6_jammed_60 ?_
            refine lv_aload_n hx hb dX6_jammed_63 rfl (lv_at hl 0 rfl) ?_
            refine ka_get (v := .ref aT) (C := RX6) (T := TX6) (Nf := 8) (ref := "BeepNet") hx hb hts hiX6 hown hK hP 0 rfl rfl 3 (by decide) k_2 rfl rfl dX6_jammed_64 ?_
            refine lv_iload_n hx hb dX6_jammed_67 rfl (lv_at hl 2 rfl) ?_
            refine lv_iload_n hx hb dX6_jammed_68 rfl (lv_at hl 3 rfl) ?_
            obtain ⟨r14, Q_spent_15, e16, h⟩ := bd2_s h
            refine kc_vi (rest := []) (wr := [(aB, .inr (6, [.ref aS, .ref aN, .ref aR, .ref aT, .ref aQ, .ref aK, .int B_latestFinding, .int B_latestFault]))]) (wF := [(aB, .inr (6, [.ref aS, .ref aN, .ref aR, .ref aT, .ref aQ, .ref aK, .int B_latestFinding, .int B_latestFault])), (aN, .inr (1, [.ref aN_neighbours, .int N_posts])), (aN_neighbours, .inl (cI, 8, .inl N_neighbours)), (aT, .inr (5, [.ref aT_rounds, .int T_size])), (aT_rounds, .inl (cI, 20, .inl T_rounds)), (aQ, .inr (3, [.ref aQ_heard, .ref aQ_fewest, .ref aQ_spent, .ref aQ_cases])), (aQ_heard, .inl (cI, 256, .inl Q_heard_12)), (aQ_spent, .inl (cI, 256, .inl Q_spent_15))]) ⟨hx, hb, hml, hown, hts⟩ (c_X3_worstRounds l dC dI cI cJ cZ cA aN aN_neighbours aT aT_rounds aQ aQ_heard aQ_fewest aQ_spent aQ_cases N_posts N_neighbours T_size T_rounds Q_heard_12 Q_spent p1 p2 r14 Q_spent_15 e16) (cwV 4 hts gX6_jammed_X3_worstRounds rfl rfl rfl (by decide +kernel) ⟨Nat.le_of_ble_eq_true rfl, Nat.le_of_ble_eq_true rfl⟩) hK hP hD hS hA [1, 2, 3, 4, 5, 6, 7] [0] [0, 1, 2, 3, 4, 5, 6, 7] 4 rfl rfl rfl rfl (by decide) rfl rfl rfl rfl rfl rfl hl.1 rfl (Nat.le_of_ble_eq_true rfl) dX6_jammed_69 ⟨Nat.zero_le _, Nat.zero_le _⟩ (fun H locs hP hD hS => ?_)
            obtain ⟨rfl, rfl, rfl⟩ := sj3 h
            exact hret _ _ _ _ _ rfl rfl hP hD hS dX6_jammed_72
          · have h := ift c11 h
            refine lv_ldc hx hb hown k_4 dX6_jammed_40 ?_
            obtain ⟨rfl, rfl, rfl⟩ := sj3 h
            exact hret _ _ _ _ _ rfl rfl hP hD hS dX6_jammed_42
        · have h := ifn c8 h
          refine lv_ldc hx hb hown k_0 dX6_jammed_27 ?_
          obtain ⟨rfl, rfl, rfl⟩ := sj3 h
          exact hret _ _ _ _ _ rfl rfl hP hD hS dX6_jammed_29
set_option maxHeartbeats 4000000 in
set_option maxRecDepth 100000 in
theorem c_X6_draws (l : Launch) (dC : Nat → ClassId) (dI : Nat → Nat → Nat) (cI cJ cZ cA : ClassId) (aB aS aN aR aT aQ aK aN_neighbours aQ_heard aQ_fewest aQ_spent aQ_cases : Nat) (B_latestFinding : Int32) (B_latestFault : Int32) (N_posts : Int32) (N_neighbours : Nat → Int32) (Q_heard : Nat → Int32) (Q_cases : Nat → Int64) (p0 : Int32) (p1 : Int32) (p2 : Int32) (rr : Int64) (Q_heard_z : Nat → Int32) (Q_cases_z : Nat → Int64) (h : fX6_draws N_posts N_neighbours Q_heard Q_cases p0 p1 p2 = some (rr, Q_heard_z, Q_cases_z)) : Ctl l yX6_draws wsX6_draws rmX6_draws (dC, dI) (tyL cI cJ cZ cA) [(aB, .inr (6, [.ref aS, .ref aN, .ref aR, .ref aT, .ref aQ, .ref aK, .int B_latestFinding, .int B_latestFault])), (aN, .inr (1, [.ref aN_neighbours, .int N_posts])), (aN_neighbours, .inl (cI, 8, .inl N_neighbours)), (aQ, .inr (3, [.ref aQ_heard, .ref aQ_fewest, .ref aQ_spent, .ref aQ_cases])), (aQ_heard, .inl (cI, 256, .inl Q_heard)), (aQ_cases, .inl (cJ, 256, .inr (.inl Q_cases)))] [(aB, .inr (6, [.ref aS, .ref aN, .ref aR, .ref aT, .ref aQ, .ref aK, .int B_latestFinding, .int B_latestFault])), (aN, .inr (1, [.ref aN_neighbours, .int N_posts])), (aN_neighbours, .inl (cI, 8, .inl N_neighbours)), (aQ, .inr (3, [.ref aQ_heard, .ref aQ_fewest, .ref aQ_spent, .ref aQ_cases])), (aQ_heard, .inl (cI, 256, .inl Q_heard_z)), (aQ_cases, .inl (cJ, 256, .inr (.inl Q_cases_z)))] [.ref aB, .int p0, .int p1, .int p2] rr := by
  refine ct_long (cc := cX6_draws) (maxL := 4) (by decide) rfl (Nat.le_of_ble_eq_true rfl) ?_
  intro p e s m args below meth c A Q ls hx hb hml hown hts hA hK hP hD hS hl hret
  have hl : lv_has ls 4 [(0, .ref aB), (1, .int p0), (2, .int p1), (3, .int p2)] := hl
  have k_0 := hts (.constantLong RX6 196 (-1000001)) (by decide +kernel)
  have k_1 := hts (.fieldLink RX6 19 "BeepNet" "net" "LBeepNet$Net;") (by decide +kernel)
  have k_2 := hts (.fieldLink RX6 40 "BeepNet" "search" "LBeepNet$Search;") (by decide +kernel)
  have hiX6 : ∀ w ∈ u_ws RX6 TX6 8, w ∈ wsX6_draws := fun w hw => List.mem_cons_of_mem _ (List.mem_append_left _ (List.mem_append_left _ (List.mem_append_right _ hw)))
  unfold fX6_draws at h
  refine lv_iload_n hx hb dX6_draws_0 rfl (lv_at hl 1 rfl) ?_
  obtain ⟨r1, e2, h⟩ := bd1_s h
  refine kc_si (rest := []) (wr := [(aB, .inr (6, [.ref aS, .ref aN, .ref aR, .ref aT, .ref aQ, .ref aK, .int B_latestFinding, .int B_latestFault])), (aN, .inr (1, [.ref aN_neighbours, .int N_posts])), (aN_neighbours, .inl (cI, 8, .inl N_neighbours)), (aQ, .inr (3, [.ref aQ_heard, .ref aQ_fewest, .ref aQ_spent, .ref aQ_cases])), (aQ_heard, .inl (cI, 256, .inl Q_heard)), (aQ_cases, .inl (cJ, 256, .inr (.inl Q_cases)))]) (wF := [(aB, .inr (6, [.ref aS, .ref aN, .ref aR, .ref aT, .ref aQ, .ref aK, .int B_latestFinding, .int B_latestFault])), (aN, .inr (1, [.ref aN_neighbours, .int N_posts])), (aN_neighbours, .inl (cI, 8, .inl N_neighbours)), (aQ, .inr (3, [.ref aQ_heard, .ref aQ_fewest, .ref aQ_spent, .ref aQ_cases])), (aQ_heard, .inl (cI, 256, .inl Q_heard)), (aQ_cases, .inl (cJ, 256, .inr (.inl Q_cases)))]) ⟨hx, hb, hml, hown, hts⟩ (c_X6_isHearing l dC dI cI cJ cZ cA p0 r1 e2) (va_cwS 1 hts gX6_draws_X6_isHearing rfl rfl rfl (by decide +kernel) ⟨Nat.le_of_ble_eq_true rfl, Nat.le_of_ble_eq_true rfl⟩) hK hP hD hS hA [] [0, 1, 2, 3, 4, 5] [0, 1, 2, 3, 4, 5] rfl rfl rfl rfl (by decide) rfl rfl rfl hl.1 rfl (Nat.le_of_ble_eq_true rfl) dX6_draws_1 ⟨Nat.zero_le _, Nat.zero_le _⟩ (fun H locs hP hD hS => ?_)
  refine lv_if_eq (tgt := 28) hx hb dX6_draws_4 (by decide) (fun c3 => ?_) (fun c3 => ?_)
  · have h := ift c3 h
    refine lv_ldc2 hx hb hown k_0 dX6_draws_28 ?_
    obtain ⟨rfl, rfl, rfl⟩ := sj3 h
    exact hret _ _ _ _ _ rfl hP hD hS dX6_draws_31
  · have h := ifn c3 h
    refine lv_aload_n hx hb dX6_draws_7 rfl (lv_at hl 0 rfl) ?_
    refine ka_get (v := .ref aN) (C := RX6) (T := TX6) (Nf := 8) (ref := "BeepNet") hx hb hts hiX6 hown hK hP 0 rfl rfl 1 (by decide) k_1 rfl rfl dX6_draws_8 ?_
    refine lv_iload_n hx hb dX6_draws_11 rfl (lv_at hl 2 rfl) ?_
    obtain ⟨r4, e5, h⟩ := bd1_s h
    refine kc_vi (rest := []) (wr := [(aB, .inr (6, [.ref aS, .ref aN, .ref aR, .ref aT, .ref aQ, .ref aK, .int B_latestFinding, .int B_latestFault])), (aN_neighbours, .inl (cI, 8, .inl N_neighbours)), (aQ, .inr (3, [.ref aQ_heard, .ref aQ_fewest, .ref aQ_spent, .ref aQ_cases])), (aQ_heard, .inl (cI, 256, .inl Q_heard)), (aQ_cases, .inl (cJ, 256, .inr (.inl Q_cases)))]) (wF := [(aB, .inr (6, [.ref aS, .ref aN, .ref aR, .ref aT, .ref aQ, .ref aK, .int B_latestFinding, .int B_latestFault])), (aN, .inr (1, [.ref aN_neighbours, .int N_posts])), (aN_neighbours, .inl (cI, 8, .inl N_neighbours)), (aQ, .inr (3, [.ref aQ_heard, .ref aQ_fewest, .ref aQ_spent, .ref aQ_cases])), (aQ_heard, .inl (cI, 256, .inl Q_heard)), (aQ_cases, .inl (cJ, 256, .inr (.inl Q_cases)))]) ⟨hx, hb, hml, hown, hts⟩ (c_X1_hasPost l dC dI cI cJ cZ cA aN aN_neighbours N_posts p1 r4 e5) (cwV 1 hts gX6_draws_X1_hasPost rfl rfl rfl (by decide +kernel) ⟨Nat.le_of_ble_eq_true rfl, Nat.le_of_ble_eq_true rfl⟩) hK hP hD hS hA [1] [0, 2, 3, 4, 5] [0, 5, 1, 2, 3, 4] 0 rfl rfl rfl rfl (by decide) rfl rfl rfl rfl rfl rfl hl.1 rfl (Nat.le_of_ble_eq_true rfl) dX6_draws_12 ⟨Nat.zero_le _, Nat.zero_le _⟩ (fun H locs hP hD hS => ?_)
    refine lv_if_eq (tgt := 28) hx hb dX6_draws_15 (by decide) (fun c6 => ?_) (fun c6 => ?_)
    · have h := ift c6 h
      refine lv_ldc2 hx hb hown k_0 dX6_draws_28 ?_
      obtain ⟨rfl, rfl, rfl⟩ := sj3 h
      exact hret _ _ _ _ _ rfl hP hD hS dX6_draws_31
    · have h := ifn c6 h
      refine lv_iload_n hx hb dX6_draws_18 rfl (lv_at hl 3 rfl) ?_
      refine lv_if_lt (tgt := 28) hx hb dX6_draws_19 (by decide) (fun c7 => ?_) (fun c7 => ?_)
      · have h := ift c7 h
        refine lv_ldc2 hx hb hown k_0 dX6_draws_28 ?_
        obtain ⟨rfl, rfl, rfl⟩ := sj3 h
        exact hret _ _ _ _ _ rfl hP hD hS dX6_draws_31
      · have h := ifn c7 h
        refine lv_iload_n hx hb dX6_draws_22 rfl (lv_at hl 3 rfl) ?_
        refine lv_bipush (v := 7) hx hb dX6_draws_23 (by decide) ?_
        refine lv_icmp_le (tgt := 32) hx hb dX6_draws_25 (by decide) (fun c8 => ?_) (fun c8 => ?_)
        · have h := ift c8 h
          refine lv_aload_n hx hb dX6_draws_32 rfl (lv_at hl 0 rfl) ?_
          refine ka_get (v := .ref aQ) (C := RX6) (T := TX6) (Nf := 8) (ref := "BeepNet") hx hb hts hiX6 hown hK hP 0 rfl rfl 4 (by decide) k_2 rfl rfl dX6_draws_33 ?_
          refine lv_aload_n hx hb dX6_draws_36 rfl (lv_at hl 0 rfl) ?_
          refine ka_get (v := .ref aN) (C := RX6) (T := TX6) (Nf := 8) (ref := "BeepNet") hx hb hts hiX6 hown hK hP 0 rfl rfl 1 (by decide) k_1 rfl rfl dX6_draws_37 ?_
          refine lv_iload_n hx hb dX6_draws_40 rfl (lv_at hl 1 rfl) ?_
          obtain ⟨Q_heard_9, e10, h⟩ := bd1_s h
          refine kc_vv (rest := []) (wr := [(aB, .inr (6, [.ref aS, .ref aN, .ref aR, .ref aT, .ref aQ, .ref aK, .int B_latestFinding, .int B_latestFault])), (aQ_cases, .inl (cJ, 256, .inr (.inl Q_cases)))]) (wF := [(aB, .inr (6, [.ref aS, .ref aN, .ref aR, .ref aT, .ref aQ, .ref aK, .int B_latestFinding, .int B_latestFault])), (aN, .inr (1, [.ref aN_neighbours, .int N_posts])), (aN_neighbours, .inl (cI, 8, .inl N_neighbours)), (aQ, .inr (3, [.ref aQ_heard, .ref aQ_fewest, .ref aQ_spent, .ref aQ_cases])), (aQ_heard, .inl (cI, 256, .inl Q_heard_9)), (aQ_cases, .inl (cJ, 256, .inr (.inl Q_cases)))]) ⟨hx, hb, hml, hown, hts⟩ (c_X3_listen l dC dI cI cJ cZ cA aN aN_neighbours aQ aQ_heard aQ_fewest aQ_spent aQ_cases N_posts N_neighbours Q_heard p0 Q_heard_9 e10) (cwV 2 hts gX6_draws_X3_listen rfl rfl rfl (by decide +kernel) ⟨Nat.le_of_ble_eq_true rfl, Nat.le_of_ble_eq_true rfl⟩) hK hP hD hS hA [1, 2, 3, 4] [0, 5] [0, 2, 3, 4, 5, 1] 2 rfl rfl rfl rfl (by decide) rfl rfl rfl rfl rfl rfl hl.1 rfl (Nat.le_of_ble_eq_true rfl) dX6_draws_41 ⟨Nat.zero_le _, Nat.zero_le _⟩ (fun H locs hP hD hS => ?_)
          refine lv_aload_n hx hb dX6_draws_44 rfl (lv_at hl 0 rfl) ?_
          refine ka_get (v := .ref aQ) (C := RX6) (T := TX6) (Nf := 8) (ref := "BeepNet") hx hb hts hiX6 hown hK hP 0 rfl rfl 4 (by decide) k_2 rfl rfl dX6_draws_45 ?_
          refine lv_aload_n hx hb dX6_draws_48 rfl (lv_at hl 0 rfl) ?_
          refine ka_get (v := .ref aN) (C := RX6) (T := TX6) (Nf := 8) (ref := "BeepNet") hx hb hts hiX6 hown hK hP 0 rfl rfl 1 (by decide) k_1 rfl rfl dX6_draws_49 ?_
          refine lv_iload_n hx hb dX6_draws_52 rfl (lv_at hl 2 rfl) ?_
          refine lv_iload_n hx hb dX6_draws_53 rfl (lv_at hl 3 rfl) ?_
          obtain ⟨r11, Q_cases_12, e13, h⟩ := bd2_s h
          refine kc_vl (rest := []) (wr := [(aB, .inr (6, [.ref aS, .ref aN, .ref aR, .ref aT, .ref aQ, .ref aK, .int B_latestFinding, .int B_latestFault]))]) (wF := [(aB, .inr (6, [.ref aS, .ref aN, .ref aR, .ref aT, .ref aQ, .ref aK, .int B_latestFinding, .int B_latestFault])), (aN, .inr (1, [.ref aN_neighbours, .int N_posts])), (aN_neighbours, .inl (cI, 8, .inl N_neighbours)), (aQ, .inr (3, [.ref aQ_heard, .ref aQ_fewest, .ref aQ_spent, .ref aQ_cases])), (aQ_heard, .inl (cI, 256, .inl Q_heard_9)), (aQ_cases, .inl (cJ, 256, .inr (.inl Q_cases_12)))]) ⟨hx, hb, hml, hown, hts⟩ (c_X3_casesThatReachAll l dC dI cI cJ cZ cA aN aN_neighbours aQ aQ_heard aQ_fewest aQ_spent aQ_cases N_posts N_neighbours Q_heard_9 Q_cases p1 p2 r11 Q_cases_12 e13) (cwV 3 hts gX6_draws_X3_casesThatReachAll rfl rfl rfl (by decide +kernel) ⟨Nat.le_of_ble_eq_true rfl, Nat.le_of_ble_eq_true rfl⟩) hK hP hD hS hA [1, 2, 3, 4, 5] [0] [0, 1, 2, 3, 4, 5] 2 rfl rfl rfl rfl (by decide) rfl rfl rfl rfl rfl rfl hl.1 rfl (Nat.le_of_ble_eq_true rfl) dX6_draws_54 ⟨Nat.zero_le _, Nat.zero_le _⟩ (fun H locs hP hD hS => ?_)
          obtain ⟨rfl, rfl, rfl⟩ := sj3 h
          exact hret _ _ _ _ _ rfl hP hD hS dX6_draws_57
        · have h := ifn c8 h
          refine lv_ldc2 hx hb hown k_0 dX6_draws_28 ?_
          obtain ⟨rfl, rfl, rfl⟩ := sj3 h
          exact hret _ _ _ _ _ rfl hP hD hS dX6_draws_31
set_option maxHeartbeats 4000000 in
set_option maxRecDepth 100000 in
theorem c_X6_firstUnpicked (l : Launch) (dC : Nat → ClassId) (dI : Nat → Nat → Nat) (cI cJ cZ cA : ClassId) (aB aS aN aR aT aQ aK aS_lanes aS_sizes aS_items aN_neighbours : Nat) (rA : Nat → Nat) (B_latestFinding : Int32) (B_latestFault : Int32) (S_rows : Nat → Nat → Int32) (N_posts : Int32) (p0 : Int32) (p1 : Int32) (p2 : Int32) (p3 : Int32) (rr : Int32) (h : fX6_firstUnpicked S_rows N_posts p0 p1 p2 p3 = some rr) : Cti l yX6_firstUnpicked wsX6_firstUnpicked rmX6_firstUnpicked (dC, dI) (tyL cI cJ cZ cA) [(aB, .inr (6, [.ref aS, .ref aN, .ref aR, .ref aT, .ref aQ, .ref aK, .int B_latestFinding, .int B_latestFault])), (aS, .inr (4, [.ref aS_lanes, .ref aS_sizes, .ref aS_items])), (aS_items, .inl (cA, 8, .inr (.inr (.inr (.inr (rwA rA)))))), (rA 0, .inl (cI, 40, .inl (S_rows 0))), (rA 1, .inl (cI, 40, .inl (S_rows 1))), (rA 2, .inl (cI, 40, .inl (S_rows 2))), (rA 3, .inl (cI, 40, .inl (S_rows 3))), (rA 4, .inl (cI, 40, .inl (S_rows 4))), (rA 5, .inl (cI, 40, .inl (S_rows 5))), (rA 6, .inl (cI, 40, .inl (S_rows 6))), (rA 7, .inl (cI, 40, .inl (S_rows 7))), (aN, .inr (1, [.ref aN_neighbours, .int N_posts]))] [(aB, .inr (6, [.ref aS, .ref aN, .ref aR, .ref aT, .ref aQ, .ref aK, .int B_latestFinding, .int B_latestFault])), (aS, .inr (4, [.ref aS_lanes, .ref aS_sizes, .ref aS_items])), (aS_items, .inl (cA, 8, .inr (.inr (.inr (.inr (rwA rA)))))), (rA 0, .inl (cI, 40, .inl (S_rows 0))), (rA 1, .inl (cI, 40, .inl (S_rows 1))), (rA 2, .inl (cI, 40, .inl (S_rows 2))), (rA 3, .inl (cI, 40, .inl (S_rows 3))), (rA 4, .inl (cI, 40, .inl (S_rows 4))), (rA 5, .inl (cI, 40, .inl (S_rows 5))), (rA 6, .inl (cI, 40, .inl (S_rows 6))), (rA 7, .inl (cI, 40, .inl (S_rows 7))), (aN, .inr (1, [.ref aN_neighbours, .int N_posts]))] [.ref aB, .int p0, .int p1, .int p2, .int p3] rr := by
  refine ct_int (ty := .int) (cc := cX6_firstUnpicked) (maxL := 6) (by decide) rfl (Nat.le_of_ble_eq_true rfl) ?_
  intro p e s m args below meth c A Q ls hx hb hml hown hts hA hK hP hD hS hl hret
  have hl : lv_has ls 6 [(0, .ref aB), (1, .int p0), (2, .int p1), (3, .int p2), (4, .int p3)] := hl
  have k_0 := hts (.fieldLink RX6 19 "BeepNet" "net" "LBeepNet$Net;") (by decide +kernel)
  have k_1 := hts (.constant RX6 173 (-1000000)) (by decide +kernel)
  have k_2 := hts (.fieldLink RX6 10 "BeepNet" "sheets" "LBeepNet$Sheets;") (by decide +kernel)
  have hiX6 : ∀ w ∈ u_ws RX6 TX6 8, w ∈ wsX6_firstUnpicked := fun w hw => List.mem_cons_of_mem _ (List.mem_append_left _ (List.mem_append_left _ (List.mem_append_right _ hw)))
  have hC3 : ∀ (n : Nat) (x1 : Int32) (x2 : Int32) (x3 : Int32) (x4 : Int32) (x5 : Int32) (H : Heap) (locs : List Loc) (ls : Array Slot), fX6_firstUnpicked_c3 S_rows N_posts n x1 x2 x3 x4 x5 = some rr → va_P (dC, dI) vwCl [(aB, .inr (6, [.ref aS, .ref aN, .ref aR, .ref aT, .ref aQ, .ref aK, .int B_latestFinding, .int B_latestFault])), (aS, .inr (4, [.ref aS_lanes, .ref aS_sizes, .ref aS_items])), (aS_items, .inl (cA, 8, .inr (.inr (.inr (.inr (rwA rA)))))), (rA 0, .inl (cI, 40, .inl (S_rows 0))), (rA 1, .inl (cI, 40, .inl (S_rows 1))), (rA 2, .inl (cI, 40, .inl (S_rows 2))), (rA 3, .inl (cI, 40, .inl (S_rows 3))), (rA 4, .inl (cI, 40, .inl (S_rows 4))), (rA 5, .inl (cI, 40, .inl (S_rows 5))), (rA 6, .inl (cI, 40, .inl (S_rows 6))), (rA 7, .inl (cI, 40, .inl (S_rows 7))), (aN, .inr (1, [.ref aN_neighbours, .int N_posts]))] H → va_D A [(aB, .inr (6, [.ref aS, .ref aN, .ref aR, .ref aT, .ref aQ, .ref aK, .int B_latestFinding, .int B_latestFault])), (aS, .inr (4, [.ref aS_lanes, .ref aS_sizes, .ref aS_items])), (aS_items, .inl (cA, 8, .inr (.inr (.inr (.inr (rwA rA)))))), (rA 0, .inl (cI, 40, .inl (S_rows 0))), (rA 1, .inl (cI, 40, .inl (S_rows 1))), (rA 2, .inl (cI, 40, .inl (S_rows 2))), (rA 3, .inl (cI, 40, .inl (S_rows 3))), (rA 4, .inl (cI, 40, .inl (S_rows 4))), (rA 5, .inl (cI, 40, .inl (S_rows 5))), (rA 6, .inl (cI, 40, .inl (S_rows 6))), (rA 7, .inl (cI, 40, .inl (S_rows 7))), (aN, .inr (1, [.ref aN_neighbours, .int N_posts]))] → va_S A s.heap H locs → lv_has ls 6 [(0, .ref aB), (1, .int x1), (2, .int x2), (3, .int x3), (4, .int x4), (5, .int x5)] → W p l e rmX6_firstUnpicked s m args below meth c H locs 0 0 Q (F0 m 3 ls []) := by
    intro n
    induction n with
    | zero => intro x1 x2 x3 x4 x5 H locs ls h; rw [fX6_firstUnpicked_c3] at h; cases h
    | succ n3 ih3 =>
      intro x1 x2 x3 x4 x5 H locs ls h hP hD hS hl
      rw [fX6_firstUnpicked_c3] at h
      refine lv_iload hx hb dX6_firstUnpicked_3 (lv_at hl 5 rfl) ?_
      refine lv_aload_n hx hb dX6_firstUnpicked_5 rfl (lv_at hl 0 rfl) ?_
      refine ka_get (v := .ref aN) (C := RX6) (T := TX6) (Nf := 8) (ref := "BeepNet") hx hb hts hiX6 hown hK hP 0 rfl rfl 1 (by decide) k_0 rfl rfl dX6_firstUnpicked_6 ?_
      obtain ⟨r401, e402, h⟩ := bd1_s h
      refine kc_vi (rest := [.int x5]) (wr := [(aB, .inr (6, [.ref aS, .ref aN, .ref aR, .ref aT, .ref aQ, .ref aK, .int B_latestFinding, .int B_latestFault])), (aS, .inr (4, [.ref aS_lanes, .ref aS_sizes, .ref aS_items])), (aS_items, .inl (cA, 8, .inr (.inr (.inr (.inr (rwA rA)))))), (rA 0, .inl (cI, 40, .inl (S_rows 0))), (rA 1, .inl (cI, 40, .inl (S_rows 1))), (rA 2, .inl (cI, 40, .inl (S_rows 2))), (rA 3, .inl (cI, 40, .inl (S_rows 3))), (rA 4, .inl (cI, 40, .inl (S_rows 4))), (rA 5, .inl (cI, 40, .inl (S_rows 5))), (rA 6, .inl (cI, 40, .inl (S_rows 6))), (rA 7, .inl (cI, 40, .inl (S_rows 7)))]) (wF := [(aB, .inr (6, [.ref aS, .ref aN, .ref aR, .ref aT, .ref aQ, .ref aK, .int B_latestFinding, .int B_latestFault])), (aS, .inr (4, [.ref aS_lanes, .ref aS_sizes, .ref aS_items])), (aS_items, .inl (cA, 8, .inr (.inr (.inr (.inr (rwA rA)))))), (rA 0, .inl (cI, 40, .inl (S_rows 0))), (rA 1, .inl (cI, 40, .inl (S_rows 1))), (rA 2, .inl (cI, 40, .inl (S_rows 2))), (rA 3, .inl (cI, 40, .inl (S_rows 3))), (rA 4, .inl (cI, 40, .inl (S_rows 4))), (rA 5, .inl (cI, 40, .inl (S_rows 5))), (rA 6, .inl (cI, 40, .inl (S_rows 6))), (rA 7, .inl (cI, 40, .inl (S_rows 7))), (aN, .inr (1, [.ref aN_neighbours, .int N_posts]))]) ⟨hx, hb, hml, hown, hts⟩ (c_X1_allPosts l dC dI cI cJ cZ cA aN aN_neighbours N_posts r401 e402) (cwV 0 hts gX6_firstUnpicked_X1_allPosts rfl rfl rfl (by decide +kernel) ⟨Nat.le_of_ble_eq_true rfl, Nat.le_of_ble_eq_true rfl⟩) hK hP hD hS hA [11] [0, 1, 2, 3, 4, 5, 6, 7, 8, 9, 10] [0, 1, 2, 3, 4, 5, 6, 7, 8, 9, 10, 11] 0 rfl rfl rfl rfl (by decide) rfl rfl rfl rfl rfl rfl hl.1 rfl (Nat.le_of_ble_eq_true rfl) dX6_firstUnpicked_9 ⟨Nat.zero_le _, Nat.zero_le _⟩ (fun H locs hP hD hS => ?_)
      refine lv_icmp_gt (tgt := 49) hx hb dX6_firstUnpicked_12 (by decide) (fun c403 => ?_) (fun c403 => ?_)
      · have h := ift c403 h
        refine lv_ldc hx hb hown k_1 dX6_firstUnpicked_49 ?_
        obtain rfl := sj1 h
        exact hret _ _ _ _ _ rfl rfl hP hD hS dX6_firstUnpicked_51
      · have h := ifn c403 h
        refine lv_iload hx hb dX6_firstUnpicked_15 (lv_at hl 5 rfl) ?_
        obtain ⟨r404, e405, h⟩ := bd1_s h
        refine kc_si (rest := []) (wr := [(aB, .inr (6, [.ref aS, .ref aN, .ref aR, .ref aT, .ref aQ, .ref aK, .int B_latestFinding, .int B_latestFault])), (aS, .inr (4, [.ref aS_lanes, .ref aS_sizes, .ref aS_items])), (aS_items, .inl (cA, 8, .inr (.inr (.inr (.inr (rwA rA)))))), (rA 0, .inl (cI, 40, .inl (S_rows 0))), (rA 1, .inl (cI, 40, .inl (S_rows 1))), (rA 2, .inl (cI, 40, .inl (S_rows 2))), (rA 3, .inl (cI, 40, .inl (S_rows 3))), (rA 4, .inl (cI, 40, .inl (S_rows 4))), (rA 5, .inl (cI, 40, .inl (S_rows 5))), (rA 6, .inl (cI, 40, .inl (S_rows 6))), (rA 7, .inl (cI, 40, .inl (S_rows 7))), (aN, .inr (1, [.ref aN_neighbours, .int N_posts]))]) (wF := [(aB, .inr (6, [.ref aS, .ref aN, .ref aR, .ref aT, .ref aQ, .ref aK, .int B_latestFinding, .int B_latestFault])), (aS, .inr (4, [.ref aS_lanes, .ref aS_sizes, .ref aS_items])), (aS_items, .inl (cA, 8, .inr (.inr (.inr (.inr (rwA rA)))))), (rA 0, .inl (cI, 40, .inl (S_rows 0))), (rA 1, .inl (cI, 40, .inl (S_rows 1))), (rA 2, .inl (cI, 40, .inl (S_rows 2))), (rA 3, .inl (cI, 40, .inl (S_rows 3))), (rA 4, .inl (cI, 40, .inl (S_rows 4))), (rA 5, .inl (cI, 40, .inl (S_rows 5))), (rA 6, .inl (cI, 40, .inl (S_rows 6))), (rA 7, .inl (cI, 40, .inl (S_rows 7))), (aN, .inr (1, [.ref aN_neighbours, .int N_posts]))]) ⟨hx, hb, hml, hown, hts⟩ (c_J6_bitCount_0f7a4 l dC dI cI cJ cZ cA x5 r404 e405) (va_cwS 1 hts gX6_firstUnpicked_J6_bitCount_0f7a4 rfl rfl rfl (by decide +kernel) ⟨Nat.le_of_ble_eq_true rfl, Nat.le_of_ble_eq_true rfl⟩) hK hP hD hS hA [] [0, 1, 2, 3, 4, 5, 6, 7, 8, 9, 10, 11] [0, 1, 2, 3, 4, 5, 6, 7, 8, 9, 10, 11] rfl rfl rfl rfl (by decide) rfl rfl rfl hl.1 rfl (Nat.le_of_ble_eq_true rfl) dX6_firstUnpicked_17 ⟨Nat.zero_le _, Nat.zero_le _⟩ (fun H locs hP hD hS => ?_)
        refine lv_iload hx hb dX6_firstUnpicked_20 (lv_at hl 4 rfl) ?_
        refine lv_icmp_gt (tgt := 43) hx hb dX6_firstUnpicked_22 (by decide) (fun c406 => ?_) (fun c406 => ?_)
        · have h := ift c406 h
          refine lv_iinc (v := x5 + 1) (lv' := [(5, .int (x5 + 1)), (0, .ref aB), (1, .int x1), (2, .int x2), (3, .int x3), (4, .int x4)]) hx hb dX6_firstUnpicked_43 hl (k := 5) rfl rfl (by decide) rfl (fun ls hl => ?_)
          refine lv_goto (tgt := 3) hx hb dX6_firstUnpicked_46 (by decide) ?_
          exact ih3 x1 x2 x3 x4 (x5 + 1) _ _ _ h hP hD hS (lv_sub hl [1, 2, 3, 4, 5, 0] rfl)
        · have h := ifn c406 h
          refine lv_aload_n hx hb dX6_firstUnpicked_25 rfl (lv_at hl 0 rfl) ?_
          refine ka_get (v := .ref aS) (C := RX6) (T := TX6) (Nf := 8) (ref := "BeepNet") hx hb hts hiX6 hown hK hP 0 rfl rfl 0 (by decide) k_2 rfl rfl dX6_firstUnpicked_26 ?_
          refine lv_iload_n hx hb dX6_firstUnpicked_29 rfl (lv_at hl 1 rfl) ?_
          refine lv_iload_n hx hb dX6_firstUnpicked_30 rfl (lv_at hl 2 rfl) ?_
          refine lv_iload_n hx hb dX6_firstUnpicked_31 rfl (lv_at hl 3 rfl) ?_
          refine lv_iload hx hb dX6_firstUnpicked_32 (lv_at hl 5 rfl) ?_
          obtain ⟨r407, e408, h⟩ := bd1_s h
          refine kc_vi (rest := []) (wr := [(aB, .inr (6, [.ref aS, .ref aN, .ref aR, .ref aT, .ref aQ, .ref aK, .int B_latestFinding, .int B_latestFault])), (aN, .inr (1, [.ref aN_neighbours, .int N_posts]))]) (wF := [(aB, .inr (6, [.ref aS, .ref aN, .ref aR, .ref aT, .ref aQ, .ref aK, .int B_latestFinding, .int B_latestFault])), (aS, .inr (4, [.ref aS_lanes, .ref aS_sizes, .ref aS_items])), (aS_items, .inl (cA, 8, .inr (.inr (.inr (.inr (rwA rA)))))), (rA 0, .inl (cI, 40, .inl (S_rows 0))), (rA 1, .inl (cI, 40, .inl (S_rows 1))), (rA 2, .inl (cI, 40, .inl (S_rows 2))), (rA 3, .inl (cI, 40, .inl (S_rows 3))), (rA 4, .inl (cI, 40, .inl (S_rows 4))), (rA 5, .inl (cI, 40, .inl (S_rows 5))), (rA 6, .inl (cI, 40, .inl (S_rows 6))), (rA 7, .inl (cI, 40, .inl (S_rows 7))), (aN, .inr (1, [.ref aN_neighbours, .int N_posts]))]) ⟨hx, hb, hml, hown, hts⟩ (c_X4_picksOne l dC dI cI cJ cZ cA aS aS_lanes aS_sizes aS_items rA S_rows x1 x2 x3 x5 r407 e408) (cwV 4 hts gX6_firstUnpicked_X4_picksOne rfl rfl rfl (by decide +kernel) ⟨Nat.le_of_ble_eq_true rfl, Nat.le_of_ble_eq_true rfl⟩) hK hP hD hS hA [1, 2, 3, 4, 5, 6, 7, 8, 9, 10] [0, 11] [0, 2, 3, 4, 5, 6, 7, 8, 9, 10, 11, 1] 0 rfl rfl rfl rfl (by decide) rfl rfl rfl rfl rfl rfl hl.1 rfl (Nat.le_of_ble_eq_true rfl) dX6_firstUnpicked_34 ⟨Nat.zero_le _, Nat.zero_le _⟩ (fun H locs hP hD hS => ?_)
          refine lv_if_ne (tgt := 43) hx hb dX6_firstUnpicked_37 (by decide) (fun c409 => ?_) (fun c409 => ?_)
          · have h := ifn c409 h
            refine lv_iinc (v := x5 + 1) (lv' := [(5, .int (x5 + 1)), (0, .ref aB), (1, .int x1), (2, .int x2), (3, .int x3), (4, .int x4)]) hx hb dX6_firstUnpicked_43 hl (k := 5) rfl rfl (by decide) rfl (fun ls hl => ?_)
            refine lv_goto (tgt := 3) hx hb dX6_firstUnpicked_46 (by decide) ?_
            exact ih3 x1 x2 x3 x4 (x5 + 1) _ _ _ h hP hD hS (lv_sub hl [1, 2, 3, 4, 5, 0] rfl)
          · have h := ift c409 h
            refine lv_iload hx hb dX6_firstUnpicked_40 (lv_at hl 5 rfl) ?_
            obtain rfl := sj1 h
            exact hret _ _ _ _ _ rfl rfl hP hD hS dX6_firstUnpicked_42
  unfold fX6_firstUnpicked at h
  refine lv_iconst (v := 1) hx hb dX6_firstUnpicked_0 (by decide) ?_
  refine lv_istore (lv' := [(5, .int 1), (0, .ref aB), (1, .int p0), (2, .int p1), (3, .int p2), (4, .int p3)]) hx hb dX6_firstUnpicked_1 hl (by decide) rfl (fun ls hl => ?_)
  exact hC3 FU p0 p1 p2 p3 1 _ _ _ h hP hD hS (lv_sub hl [1, 2, 3, 4, 5, 0] rfl)
set_option maxHeartbeats 4000000 in
set_option maxRecDepth 100000 in
theorem c_X6_picks (l : Launch) (dC : Nat → ClassId) (dI : Nat → Nat → Nat) (cI cJ cZ cA : ClassId) (aB aS aN aR aT aQ aK aS_lanes aS_sizes aS_items aN_neighbours : Nat) (rA : Nat → Nat) (B_latestFinding : Int32) (B_latestFault : Int32) (S_lanes : Nat → Int32) (S_sizes : Nat → Int32) (S_rows : Nat → Nat → Int32) (N_posts : Int32) (p0 : Int32) (p1 : Int32) (p2 : Int32) (p3 : Int32) (p4 : Int32) (rr : Int32) (B_latestFinding_z : Int32) (h : fX6_picks B_latestFinding S_lanes S_sizes S_rows N_posts p0 p1 p2 p3 p4 = some (rr, B_latestFinding_z)) : Cti l yX6_picks wsX6_picks rmX6_picks (dC, dI) (tyL cI cJ cZ cA) [(aB, .inr (6, [.ref aS, .ref aN, .ref aR, .ref aT, .ref aQ, .ref aK, .int B_latestFinding, .int B_latestFault])), (aS, .inr (4, [.ref aS_lanes, .ref aS_sizes, .ref aS_items])), (aS_lanes, .inl (cI, 8, .inl S_lanes)), (aS_sizes, .inl (cI, 8, .inl S_sizes)), (aS_items, .inl (cA, 8, .inr (.inr (.inr (.inr (rwA rA)))))), (rA 0, .inl (cI, 40, .inl (S_rows 0))), (rA 1, .inl (cI, 40, .inl (S_rows 1))), (rA 2, .inl (cI, 40, .inl (S_rows 2))), (rA 3, .inl (cI, 40, .inl (S_rows 3))), (rA 4, .inl (cI, 40, .inl (S_rows 4))), (rA 5, .inl (cI, 40, .inl (S_rows 5))), (rA 6, .inl (cI, 40, .inl (S_rows 6))), (rA 7, .inl (cI, 40, .inl (S_rows 7))), (aN, .inr (1, [.ref aN_neighbours, .int N_posts]))] [(aB, .inr (6, [.ref aS, .ref aN, .ref aR, .ref aT, .ref aQ, .ref aK, .int B_latestFinding_z, .int B_latestFault])), (aS, .inr (4, [.ref aS_lanes, .ref aS_sizes, .ref aS_items])), (aS_lanes, .inl (cI, 8, .inl S_lanes)), (aS_sizes, .inl (cI, 8, .inl S_sizes)), (aS_items, .inl (cA, 8, .inr (.inr (.inr (.inr (rwA rA)))))), (rA 0, .inl (cI, 40, .inl (S_rows 0))), (rA 1, .inl (cI, 40, .inl (S_rows 1))), (rA 2, .inl (cI, 40, .inl (S_rows 2))), (rA 3, .inl (cI, 40, .inl (S_rows 3))), (rA 4, .inl (cI, 40, .inl (S_rows 4))), (rA 5, .inl (cI, 40, .inl (S_rows 5))), (rA 6, .inl (cI, 40, .inl (S_rows 6))), (rA 7, .inl (cI, 40, .inl (S_rows 7))), (aN, .inr (1, [.ref aN_neighbours, .int N_posts]))] [.ref aB, .int p0, .int p1, .int p2, .int p3, .int p4] rr := by
  refine ct_int (ty := .int) (cc := cX6_picks) (maxL := 7) (by decide) rfl (Nat.le_of_ble_eq_true rfl) ?_
  intro p e s m args below meth c A Q ls hx hb hml hown hts hA hK hP hD hS hl hret
  have hl : lv_has ls 7 [(0, .ref aB), (1, .int p0), (2, .int p1), (3, .int p2), (4, .int p3), (5, .int p4)] := hl
  have k_0 := hts (.constant RX6 57 (-1000001)) (by decide +kernel)
  have k_1 := hts (.fieldLink RX6 10 "BeepNet" "sheets" "LBeepNet$Sheets;") (by decide +kernel)
  have k_2 := hts (.fieldLink RX6 58 "BeepNet" "latestFinding" "I") (by decide +kernel)
  have k_3 := hts (.constant RX6 173 (-1000000)) (by decide +kernel)
  have k_4 := hts (.constant RX6 62 (-1000010)) (by decide +kernel)
  have hiX6 : ∀ w ∈ u_ws RX6 TX6 8, w ∈ wsX6_picks := fun w hw => List.mem_cons_of_mem _ (List.mem_append_left _ (List.mem_append_left _ (List.mem_append_right _ hw)))
  unfold fX6_picks at h
  refine lv_iload_n hx hb dX6_picks_0 rfl (lv_at hl 1 rfl) ?_
  obtain ⟨r1, e2, h⟩ := bd1_s h
  refine kc_si (rest := []) (wr := [(aB, .inr (6, [.ref aS, .ref aN, .ref aR, .ref aT, .ref aQ, .ref aK, .int B_latestFinding, .int B_latestFault])), (aS, .inr (4, [.ref aS_lanes, .ref aS_sizes, .ref aS_items])), (aS_lanes, .inl (cI, 8, .inl S_lanes)), (aS_sizes, .inl (cI, 8, .inl S_sizes)), (aS_items, .inl (cA, 8, .inr (.inr (.inr (.inr (rwA rA)))))), (rA 0, .inl (cI, 40, .inl (S_rows 0))), (rA 1, .inl (cI, 40, .inl (S_rows 1))), (rA 2, .inl (cI, 40, .inl (S_rows 2))), (rA 3, .inl (cI, 40, .inl (S_rows 3))), (rA 4, .inl (cI, 40, .inl (S_rows 4))), (rA 5, .inl (cI, 40, .inl (S_rows 5))), (rA 6, .inl (cI, 40, .inl (S_rows 6))), (rA 7, .inl (cI, 40, .inl (S_rows 7))), (aN, .inr (1, [.ref aN_neighbours, .int N_posts]))]) (wF := [(aB, .inr (6, [.ref aS, .ref aN, .ref aR, .ref aT, .ref aQ, .ref aK, .int B_latestFinding, .int B_latestFault])), (aS, .inr (4, [.ref aS_lanes, .ref aS_sizes, .ref aS_items])), (aS_lanes, .inl (cI, 8, .inl S_lanes)), (aS_sizes, .inl (cI, 8, .inl S_sizes)), (aS_items, .inl (cA, 8, .inr (.inr (.inr (.inr (rwA rA)))))), (rA 0, .inl (cI, 40, .inl (S_rows 0))), (rA 1, .inl (cI, 40, .inl (S_rows 1))), (rA 2, .inl (cI, 40, .inl (S_rows 2))), (rA 3, .inl (cI, 40, .inl (S_rows 3))), (rA 4, .inl (cI, 40, .inl (S_rows 4))), (rA 5, .inl (cI, 40, .inl (S_rows 5))), (rA 6, .inl (cI, 40, .inl (S_rows 6))), (rA 7, .inl (cI, 40, .inl (S_rows 7))), (aN, .inr (1, [.ref aN_neighbours, .int N_posts]))]) ⟨hx, hb, hml, hown, hts⟩ (c_X6_isSheet l dC dI cI cJ cZ cA p0 r1 e2) (va_cwS 1 hts gX6_picks_X6_isSheet rfl rfl rfl (by decide +kernel) ⟨Nat.le_of_ble_eq_true rfl, Nat.le_of_ble_eq_true rfl⟩) hK hP hD hS hA [] [0, 1, 2, 3, 4, 5, 6, 7, 8, 9, 10, 11, 12, 13] [0, 1, 2, 3, 4, 5, 6, 7, 8, 9, 10, 11, 12, 13] rfl rfl rfl rfl (by decide) rfl rfl rfl hl.1 rfl (Nat.le_of_ble_eq_true rfl) dX6_picks_1 ⟨Nat.zero_le _, Nat.zero_le _⟩ (fun H locs hP hD hS => ?_)
  refine lv_if_eq (tgt := 41) hx hb dX6_picks_4 (by decide) (fun c3 => ?_) (fun c3 => ?_)
  · have h := ift c3 h
    refine lv_ldc hx hb hown k_0 dX6_picks_41 ?_
    obtain ⟨rfl, rfl⟩ := sj2 h
    exact hret _ _ _ _ _ rfl rfl hP hD hS dX6_picks_43
  · have h := ifn c3 h
    refine lv_iload_n hx hb dX6_picks_7 rfl (lv_at hl 3 rfl) ?_
    refine lv_iconst (v := 1) hx hb dX6_picks_8 (by decide) ?_
    refine lv_icmp_lt (tgt := 41) hx hb dX6_picks_9 (by decide) (fun c4 => ?_) (fun c4 => ?_)
    · have h := ift c4 h
      refine lv_ldc hx hb hown k_0 dX6_picks_41 ?_
      obtain ⟨rfl, rfl⟩ := sj2 h
      exact hret _ _ _ _ _ rfl rfl hP hD hS dX6_picks_43
    · have h := ifn c4 h
      refine lv_iload_n hx hb dX6_picks_12 rfl (lv_at hl 3 rfl) ?_
      refine lv_bipush (v := 40) hx hb dX6_picks_13 (by decide) ?_
      refine lv_icmp_gt (tgt := 41) hx hb dX6_picks_15 (by decide) (fun c5 => ?_) (fun c5 => ?_)
      · have h := ift c5 h
        refine lv_ldc hx hb hown k_0 dX6_picks_41 ?_
        obtain ⟨rfl, rfl⟩ := sj2 h
        exact hret _ _ _ _ _ rfl rfl hP hD hS dX6_picks_43
      · have h := ifn c5 h
        refine lv_iload hx hb dX6_picks_18 (lv_at hl 4 rfl) ?_
        refine lv_iconst (v := 1) hx hb dX6_picks_20 (by decide) ?_
        refine lv_icmp_lt (tgt := 41) hx hb dX6_picks_21 (by decide) (fun c6 => ?_) (fun c6 => ?_)
        · have h := ift c6 h
          refine lv_ldc hx hb hown k_0 dX6_picks_41 ?_
          obtain ⟨rfl, rfl⟩ := sj2 h
          exact hret _ _ _ _ _ rfl rfl hP hD hS dX6_picks_43
        · have h := ifn c6 h
          refine lv_iload hx hb dX6_picks_24 (lv_at hl 4 rfl) ?_
          refine lv_iconst (v := 4) hx hb dX6_picks_26 (by decide) ?_
          refine lv_icmp_gt (tgt := 41) hx hb dX6_picks_27 (by decide) (fun c7 => ?_) (fun c7 => ?_)
          · have h := ift c7 h
            refine lv_ldc hx hb hown k_0 dX6_picks_41 ?_
            obtain ⟨rfl, rfl⟩ := sj2 h
            exact hret _ _ _ _ _ rfl rfl hP hD hS dX6_picks_43
          · have h := ifn c7 h
            refine lv_iload hx hb dX6_picks_30 (lv_at hl 5 rfl) ?_
            refine lv_if_lt (tgt := 41) hx hb dX6_picks_32 (by decide) (fun c8 => ?_) (fun c8 => ?_)
            · have h := ift c8 h
              refine lv_ldc hx hb hown k_0 dX6_picks_41 ?_
              obtain ⟨rfl, rfl⟩ := sj2 h
              exact hret _ _ _ _ _ rfl rfl hP hD hS dX6_picks_43
            · have h := ifn c8 h
              refine lv_iload hx hb dX6_picks_35 (lv_at hl 5 rfl) ?_
              refine lv_iconst (v := 1) hx hb dX6_picks_37 (by decide) ?_
              refine lv_icmp_le (tgt := 44) hx hb dX6_picks_38 (by decide) (fun c9 => ?_) (fun c9 => ?_)
              · have h := ift c9 h
                refine lv_aload_n hx hb dX6_picks_44 rfl (lv_at hl 0 rfl) ?_
                refine lv_aload_n hx hb dX6_picks_45 rfl (lv_at hl 0 rfl) ?_
                refine ka_get (v := .ref aS) (C := RX6) (T := TX6) (Nf := 8) (ref := "BeepNet") hx hb hts hiX6 hown hK hP 0 rfl rfl 0 (by decide) k_1 rfl rfl dX6_picks_46 ?_
                refine lv_iload_n hx hb dX6_picks_49 rfl (lv_at hl 1 rfl) ?_
                refine lv_iload_n hx hb dX6_picks_50 rfl (lv_at hl 2 rfl) ?_
                refine lv_iload_n hx hb dX6_picks_51 rfl (lv_at hl 3 rfl) ?_
                obtain ⟨r10, e11, h⟩ := bd1_s h
                refine kc_vi (rest := [.ref aB]) (wr := [(aB, .inr (6, [.ref aS, .ref aN, .ref aR, .ref aT, .ref aQ, .ref aK, .int B_latestFinding, .int B_latestFault])), (aS_items, .inl (cA, 8, .inr (.inr (.inr (.inr (rwA rA)))))), (rA 0, .inl (cI, 40, .inl (S_rows 0))), (rA 1, .inl (cI, 40, .inl (S_rows 1))), (rA 2, .inl (cI, 40, .inl (S_rows 2))), (rA 3, .inl (cI, 40, .inl (S_rows 3))), (rA 4, .inl (cI, 40, .inl (S_rows 4))), (rA 5, .inl (cI, 40, .inl (S_rows 5))), (rA 6, .inl (cI, 40, .inl (S_rows 6))), (rA 7, .inl (cI, 40, .inl (S_rows 7))), (aN, .inr (1, [.ref aN_neighbours, .int N_posts]))]) (wF := [(aB, .inr (6, [.ref aS, .ref aN, .ref aR, .ref aT, .ref aQ, .ref aK, .int B_latestFinding, .int B_latestFault])), (aS, .inr (4, [.ref aS_lanes, .ref aS_sizes, .ref aS_items])), (aS_lanes, .inl (cI, 8, .inl S_lanes)), (aS_sizes, .inl (cI, 8, .inl S_sizes)), (aS_items, .inl (cA, 8, .inr (.inr (.inr (.inr (rwA rA)))))), (rA 0, .inl (cI, 40, .inl (S_rows 0))), (rA 1, .inl (cI, 40, .inl (S_rows 1))), (rA 2, .inl (cI, 40, .inl (S_rows 2))), (rA 3, .inl (cI, 40, .inl (S_rows 3))), (rA 4, .inl (cI, 40, .inl (S_rows 4))), (rA 5, .inl (cI, 40, .inl (S_rows 5))), (rA 6, .inl (cI, 40, .inl (S_rows 6))), (rA 7, .inl (cI, 40, .inl (S_rows 7))), (aN, .inr (1, [.ref aN_neighbours, .int N_posts]))]) ⟨hx, hb, hml, hown, hts⟩ (c_X4_findPlaces l dC dI cI cJ cZ cA aS aS_lanes aS_sizes aS_items S_lanes S_sizes p0 p1 p2 r10 e11) (cwV 3 hts gX6_picks_X4_findPlaces rfl rfl rfl (by decide +kernel) ⟨Nat.le_of_ble_eq_true rfl, Nat.le_of_ble_eq_true rfl⟩) hK hP hD hS hA [1, 2, 3] [0, 4, 5, 6, 7, 8, 9, 10, 11, 12, 13] [0, 11, 12, 13, 1, 2, 3, 4, 5, 6, 7, 8, 9, 10] 0 rfl rfl rfl rfl (by decide) rfl rfl rfl rfl rfl rfl hl.1 rfl (Nat.le_of_ble_eq_true rfl) dX6_picks_52 ⟨Nat.zero_le _, Nat.zero_le _⟩ (fun H locs hP hD hS => ?_)
                refine ka_put (w1 := [(aB, .inr (6, [.ref aS, .ref aN, .ref aR, .ref aT, .ref aQ, .ref aK, .int r10, .int B_latestFault])), (aS, .inr (4, [.ref aS_lanes, .ref aS_sizes, .ref aS_items])), (aS_lanes, .inl (cI, 8, .inl S_lanes)), (aS_sizes, .inl (cI, 8, .inl S_sizes)), (aS_items, .inl (cA, 8, .inr (.inr (.inr (.inr (rwA rA)))))), (rA 0, .inl (cI, 40, .inl (S_rows 0))), (rA 1, .inl (cI, 40, .inl (S_rows 1))), (rA 2, .inl (cI, 40, .inl (S_rows 2))), (rA 3, .inl (cI, 40, .inl (S_rows 3))), (rA 4, .inl (cI, 40, .inl (S_rows 4))), (rA 5, .inl (cI, 40, .inl (S_rows 5))), (rA 6, .inl (cI, 40, .inl (S_rows 6))), (rA 7, .inl (cI, 40, .inl (S_rows 7))), (aN, .inr (1, [.ref aN_neighbours, .int N_posts]))]) (C := RX6) (T := TX6) (Nf := 8) (ref := "BeepNet") hx hb hts hiX6 tyX6 tyX6_ok nmX6 hown hK hP hD hS 0 rfl rfl 6 (by decide) k_2 rfl rfl rfl (Nat.le_of_ble_eq_true rfl) dX6_picks_55 rfl (fun H locs hP hD hS => ?_)
                refine lv_aload_n hx hb dX6_picks_58 rfl (lv_at hl 0 rfl) ?_
                refine ka_get (v := .int r10) (C := RX6) (T := TX6) (Nf := 8) (ref := "BeepNet") hx hb hts hiX6 hown hK hP 0 rfl rfl 6 (by decide) k_2 rfl rfl dX6_picks_59 ?_
                refine lv_if_eq (tgt := 73) hx hb dX6_picks_62 (by decide) (fun c12 => ?_) (fun c12 => ?_)
                · have h := ift c12 h
                  refine lv_aload_n hx hb dX6_picks_73 rfl (lv_at hl 0 rfl) ?_
                  refine lv_iload_n hx hb dX6_picks_74 rfl (lv_at hl 1 rfl) ?_
                  refine lv_iload_n hx hb dX6_picks_75 rfl (lv_at hl 2 rfl) ?_
                  refine lv_iload_n hx hb dX6_picks_76 rfl (lv_at hl 3 rfl) ?_
                  refine lv_iload hx hb dX6_picks_77 (lv_at hl 4 rfl) ?_
                  obtain ⟨r13, e14, h⟩ := bd1_s h
                  refine kc_vi (rest := []) (wr := [(aS_lanes, .inl (cI, 8, .inl S_lanes)), (aS_sizes, .inl (cI, 8, .inl S_sizes))]) (wF := [(aB, .inr (6, [.ref aS, .ref aN, .ref aR, .ref aT, .ref aQ, .ref aK, .int r10, .int B_latestFault])), (aS, .inr (4, [.ref aS_lanes, .ref aS_sizes, .ref aS_items])), (aS_lanes, .inl (cI, 8, .inl S_lanes)), (aS_sizes, .inl (cI, 8, .inl S_sizes)), (aS_items, .inl (cA, 8, .inr (.inr (.inr (.inr (rwA rA)))))), (rA 0, .inl (cI, 40, .inl (S_rows 0))), (rA 1, .inl (cI, 40, .inl (S_rows 1))), (rA 2, .inl (cI, 40, .inl (S_rows 2))), (rA 3, .inl (cI, 40, .inl (S_rows 3))), (rA 4, .inl (cI, 40, .inl (S_rows 4))), (rA 5, .inl (cI, 40, .inl (S_rows 5))), (rA 6, .inl (cI, 40, .inl (S_rows 6))), (rA 7, .inl (cI, 40, .inl (S_rows 7))), (aN, .inr (1, [.ref aN_neighbours, .int N_posts]))]) ⟨hx, hb, hml, hown, hts⟩ (c_X6_firstUnpicked l dC dI cI cJ cZ cA aB aS aN aR aT aQ aK aS_lanes aS_sizes aS_items aN_neighbours rA r10 B_latestFault S_rows N_posts p0 p1 p2 p3 r13 e14) (cwV 4 hts gX6_picks_X6_firstUnpicked rfl rfl rfl (by decide +kernel) ⟨Nat.le_of_ble_eq_true rfl, Nat.le_of_ble_eq_true rfl⟩) hK hP hD hS hA [0, 1, 4, 5, 6, 7, 8, 9, 10, 11, 12, 13] [2, 3] [2, 3, 0, 1, 4, 5, 6, 7, 8, 9, 10, 11, 12, 13] 0 rfl rfl rfl rfl (by decide) rfl rfl rfl rfl rfl rfl hl.1 rfl (Nat.le_of_ble_eq_true rfl) dX6_picks_79 ⟨Nat.zero_le _, Nat.zero_le _⟩ (fun H locs hP hD hS => ?_)
                  refine lv_istore (lv' := [(6, .int r13), (0, .ref aB), (1, .int p0), (2, .int p1), (3, .int p2), (4, .int p3), (5, .int p4)]) hx hb dX6_picks_82 hl (by decide) rfl (fun ls hl => ?_)
                  refine lv_iload hx hb dX6_picks_84 (lv_at hl 6 rfl) ?_
                  refine lv_iconst (v := 1) hx hb dX6_picks_86 (by decide) ?_
                  refine lv_icmp_ne (tgt := 93) hx hb dX6_picks_87 (by decide) (fun c15 => ?_) (fun c15 => ?_)
                  · have h := ifn c15 h
                    refine lv_iload hx hb dX6_picks_93 (lv_at hl 0 rfl) ?_
                    refine lv_ldc hx hb hown k_3 dX6_picks_95 ?_
                    refine lv_icmp_ne (tgt := 104) hx hb dX6_picks_97 (by decide) (fun c16 => ?_) (fun c16 => ?_)
                    · have h := ifn c16 h
                      refine lv_iconst (v := 0) hx hb dX6_picks_104 (by decide) ?_
                      obtain ⟨rfl, rfl⟩ := sj2 h
                      exact hret _ _ _ _ _ rfl rfl hP hD hS dX6_picks_105
                    · have h := ift c16 h
                      refine lv_iconst (v := 1) hx hb dX6_picks_100 (by decide) ?_
                      refine lv_goto (tgt := 105) hx hb dX6_picks_101 (by decide) ?_
                      obtain ⟨rfl, rfl⟩ := sj2 h
                      exact hret _ _ _ _ _ rfl rfl hP hD hS dX6_picks_105
                  · have h := ift c15 h
                    refine lv_iload hx hb dX6_picks_90 (lv_at hl 0 rfl) ?_
                    obtain ⟨rfl, rfl⟩ := sj2 h
                    exact hret _ _ _ _ _ rfl rfl hP hD hS dX6_picks_92
                · have h := ifn c12 h
                  refine lv_ldc hx hb hown k_4 dX6_picks_65 ?_
                  refine lv_aload_n hx hb dX6_picks_67 rfl (lv_at hl 0 rfl) ?_
                  refine ka_get (v := .int r10) (C := RX6) (T := TX6) (Nf := 8) (ref := "BeepNet") hx hb hts hiX6 hown hK hP 0 rfl rfl 6 (by decide) k_2 rfl rfl dX6_picks_68 ?_
                  refine lv_isub hx hb dX6_picks_71 ?_
                  obtain ⟨rfl, rfl⟩ := sj2 h
                  exact hret _ _ _ _ _ rfl rfl hP hD hS dX6_picks_72
              · have h := ifn c9 h
                refine lv_ldc hx hb hown k_0 dX6_picks_41 ?_
                obtain ⟨rfl, rfl⟩ := sj2 h
                exact hret _ _ _ _ _ rfl rfl hP hD hS dX6_picks_43
set_option maxHeartbeats 4000000 in
set_option maxRecDepth 100000 in
theorem c_X6_kind (l : Launch) (dC : Nat → ClassId) (dI : Nat → Nat → Nat) (cI cJ cZ cA : ClassId) (aB aS aN aR aT aQ aK aN_neighbours : Nat) (B_latestFinding : Int32) (B_latestFault : Int32) (N_posts : Int32) (N_neighbours : Nat → Int32) (p0 : Int32) (rr : Int32) (h : fX6_kind N_posts N_neighbours p0 = some rr) : Cti l yX6_kind wsX6_kind rmX6_kind (dC, dI) (tyL cI cJ cZ cA) [(aB, .inr (6, [.ref aS, .ref aN, .ref aR, .ref aT, .ref aQ, .ref aK, .int B_latestFinding, .int B_latestFault])), (aN, .inr (1, [.ref aN_neighbours, .int N_posts])), (aN_neighbours, .inl (cI, 8, .inl N_neighbours))] [(aB, .inr (6, [.ref aS, .ref aN, .ref aR, .ref aT, .ref aQ, .ref aK, .int B_latestFinding, .int B_latestFault])), (aN, .inr (1, [.ref aN_neighbours, .int N_posts])), (aN_neighbours, .inl (cI, 8, .inl N_neighbours))] [.ref aB, .int p0] rr := by
  refine ct_int (ty := .int) (cc := cX6_kind) (maxL := 2) (by decide) rfl (Nat.le_of_ble_eq_true rfl) ?_
  intro p e s m args below meth c A Q ls hx hb hml hown hts hA hK hP hD hS hl hret
  have hl : lv_has ls 2 [(0, .ref aB), (1, .int p0)] := hl
  have k_0 := hts (.fieldLink RX6 19 "BeepNet" "net" "LBeepNet$Net;") (by decide +kernel)
  have k_1 := hts (.constant RX6 57 (-1000001)) (by decide +kernel)
  have hiX6 : ∀ w ∈ u_ws RX6 TX6 8, w ∈ wsX6_kind := fun w hw => List.mem_cons_of_mem _ (List.mem_append_left _ (List.mem_append_right _ hw))
  unfold fX6_kind at h
  refine lv_aload_n hx hb dX6_kind_0 rfl (lv_at hl 0 rfl) ?_
  refine ka_get (v := .ref aN) (C := RX6) (T := TX6) (Nf := 8) (ref := "BeepNet") hx hb hts hiX6 hown hK hP 0 rfl rfl 1 (by decide) k_0 rfl rfl dX6_kind_1 ?_
  refine lv_iload_n hx hb dX6_kind_4 rfl (lv_at hl 1 rfl) ?_
  obtain ⟨r1, e2, h⟩ := bd1_s h
  refine kc_vi (rest := []) (wr := [(aB, .inr (6, [.ref aS, .ref aN, .ref aR, .ref aT, .ref aQ, .ref aK, .int B_latestFinding, .int B_latestFault])), (aN_neighbours, .inl (cI, 8, .inl N_neighbours))]) (wF := [(aB, .inr (6, [.ref aS, .ref aN, .ref aR, .ref aT, .ref aQ, .ref aK, .int B_latestFinding, .int B_latestFault])), (aN, .inr (1, [.ref aN_neighbours, .int N_posts])), (aN_neighbours, .inl (cI, 8, .inl N_neighbours))]) ⟨hx, hb, hml, hown, hts⟩ (c_X1_hasPost l dC dI cI cJ cZ cA aN aN_neighbours N_posts p0 r1 e2) (cwV 1 hts gX6_kind_X1_hasPost rfl rfl rfl (by decide +kernel) ⟨Nat.le_of_ble_eq_true rfl, Nat.le_of_ble_eq_true rfl⟩) hK hP hD hS hA [1] [0, 2] [0, 2, 1] 0 rfl rfl rfl rfl (by decide) rfl rfl rfl rfl rfl rfl hl.1 rfl (Nat.le_of_ble_eq_true rfl) dX6_kind_5 ⟨Nat.zero_le _, Nat.zero_le _⟩ (fun H locs hP hD hS => ?_)
  refine lv_if_eq (tgt := 22) hx hb dX6_kind_8 (by decide) (fun c3 => ?_) (fun c3 => ?_)
  · have h := ift c3 h
    refine lv_ldc hx hb hown k_1 dX6_kind_22 ?_
    obtain rfl := sj1 h
    exact hret _ _ _ _ _ rfl rfl hP hD hS dX6_kind_24
  · have h := ifn c3 h
    refine lv_aload_n hx hb dX6_kind_11 rfl (lv_at hl 0 rfl) ?_
    refine ka_get (v := .ref aN) (C := RX6) (T := TX6) (Nf := 8) (ref := "BeepNet") hx hb hts hiX6 hown hK hP 0 rfl rfl 1 (by decide) k_0 rfl rfl dX6_kind_12 ?_
    refine lv_iload_n hx hb dX6_kind_15 rfl (lv_at hl 1 rfl) ?_
    obtain ⟨r4, e5, h⟩ := bd1_s h
    refine kc_vi (rest := []) (wr := [(aB, .inr (6, [.ref aS, .ref aN, .ref aR, .ref aT, .ref aQ, .ref aK, .int B_latestFinding, .int B_latestFault]))]) (wF := [(aB, .inr (6, [.ref aS, .ref aN, .ref aR, .ref aT, .ref aQ, .ref aK, .int B_latestFinding, .int B_latestFault])), (aN, .inr (1, [.ref aN_neighbours, .int N_posts])), (aN_neighbours, .inl (cI, 8, .inl N_neighbours))]) ⟨hx, hb, hml, hown, hts⟩ (c_X1_kindOf l dC dI cI cJ cZ cA aN aN_neighbours N_posts N_neighbours p0 r4 e5) (cwV 1 hts gX6_kind_X1_kindOf rfl rfl rfl (by decide +kernel) ⟨Nat.le_of_ble_eq_true rfl, Nat.le_of_ble_eq_true rfl⟩) hK hP hD hS hA [1, 2] [0] [0, 1, 2] 0 rfl rfl rfl rfl (by decide) rfl rfl rfl rfl rfl rfl hl.1 rfl (Nat.le_of_ble_eq_true rfl) dX6_kind_16 ⟨Nat.zero_le _, Nat.zero_le _⟩ (fun H locs hP hD hS => ?_)
    refine lv_goto (tgt := 24) hx hb dX6_kind_19 (by decide) ?_
    obtain rfl := sj1 h
    exact hret _ _ _ _ _ rfl rfl hP hD hS dX6_kind_24
set_option maxHeartbeats 4000000 in
set_option maxRecDepth 100000 in
theorem c_X6_as (l : Launch) (dC : Nat → ClassId) (dI : Nat → Nat → Nat) (cI cJ cZ cA : ClassId) (aB aS aN aR aT aQ aK aN_neighbours : Nat) (B_latestFinding : Int32) (B_latestFault : Int32) (N_posts : Int32) (N_neighbours : Nat → Int32) (p0 : Int32) (p1 : Int32) (rr : Int32) (B_latestFinding_z : Int32) (h : fX6_as B_latestFinding N_posts N_neighbours p0 p1 = some (rr, B_latestFinding_z)) : Cti l yX6_as wsX6_as rmX6_as (dC, dI) (tyL cI cJ cZ cA) [(aB, .inr (6, [.ref aS, .ref aN, .ref aR, .ref aT, .ref aQ, .ref aK, .int B_latestFinding, .int B_latestFault])), (aN, .inr (1, [.ref aN_neighbours, .int N_posts])), (aN_neighbours, .inl (cI, 8, .inl N_neighbours))] [(aB, .inr (6, [.ref aS, .ref aN, .ref aR, .ref aT, .ref aQ, .ref aK, .int B_latestFinding_z, .int B_latestFault])), (aN, .inr (1, [.ref aN_neighbours, .int N_posts])), (aN_neighbours, .inl (cI, 8, .inl N_neighbours))] [.ref aB, .int p0, .int p1] rr := by
  refine ct_int (ty := .int) (cc := cX6_as) (maxL := 3) (by decide) rfl (Nat.le_of_ble_eq_true rfl) ?_
  intro p e s m args below meth c A Q ls hx hb hml hown hts hA hK hP hD hS hl hret
  have hl : lv_has ls 3 [(0, .ref aB), (1, .int p0), (2, .int p1)] := hl
  have k_0 := hts (.fieldLink RX6 58 "BeepNet" "latestFinding" "I") (by decide +kernel)
  have k_1 := hts (.fieldLink RX6 19 "BeepNet" "net" "LBeepNet$Net;") (by decide +kernel)
  have k_2 := hts (.constant RX6 62 (-1000010)) (by decide +kernel)
  have k_3 := hts (.constant RX6 57 (-1000001)) (by decide +kernel)
  have hiX6 : ∀ w ∈ u_ws RX6 TX6 8, w ∈ wsX6_as := fun w hw => List.mem_cons_of_mem _ (List.mem_append_left _ (List.mem_append_right _ hw))
  have hC41 : ∀ (B_latestFinding : Int32) (x1 : Int32) (t1 : Int32) (H : Heap) (locs : List Loc) (ls : Array Slot), fX6_as_c41 N_posts N_neighbours B_latestFinding x1 t1 = some (rr, B_latestFinding_z) → va_P (dC, dI) vwCl [(aB, .inr (6, [.ref aS, .ref aN, .ref aR, .ref aT, .ref aQ, .ref aK, .int B_latestFinding, .int B_latestFault])), (aN, .inr (1, [.ref aN_neighbours, .int N_posts])), (aN_neighbours, .inl (cI, 8, .inl N_neighbours))] H → va_D A [(aB, .inr (6, [.ref aS, .ref aN, .ref aR, .ref aT, .ref aQ, .ref aK, .int B_latestFinding, .int B_latestFault])), (aN, .inr (1, [.ref aN_neighbours, .int N_posts])), (aN_neighbours, .inl (cI, 8, .inl N_neighbours))] → va_S A s.heap H locs → lv_has ls 3 [(0, .ref aB), (1, .int x1)] → W p l e rmX6_as s m args below meth c H locs 0 0 Q (F0 m 41 ls [.int t1, .ref aB]) := by
    intro B_latestFinding x1 t1 H locs ls h hP hD hS hl
    unfold fX6_as_c41 at h
    refine ka_put (w1 := [(aB, .inr (6, [.ref aS, .ref aN, .ref aR, .ref aT, .ref aQ, .ref aK, .int t1, .int B_latestFault])), (aN, .inr (1, [.ref aN_neighbours, .int N_posts])), (aN_neighbours, .inl (cI, 8, .inl N_neighbours))]) (C := RX6) (T := TX6) (Nf := 8) (ref := "BeepNet") hx hb hts hiX6 tyX6 tyX6_ok nmX6 hown hK hP hD hS 0 rfl rfl 6 (by decide) k_0 rfl rfl rfl (Nat.le_of_ble_eq_true rfl) dX6_as_41 rfl (fun H locs hP hD hS => ?_)
    refine lv_aload_n hx hb dX6_as_44 rfl (lv_at hl 0 rfl) ?_
    refine ka_get (v := .int t1) (C := RX6) (T := TX6) (Nf := 8) (ref := "BeepNet") hx hb hts hiX6 hown hK hP 0 rfl rfl 6 (by decide) k_0 rfl rfl dX6_as_45 ?_
    refine lv_if_eq (tgt := 61) hx hb dX6_as_48 (by decide) (fun c4201 => ?_) (fun c4201 => ?_)
    · have h := ift c4201 h
      refine lv_aload_n hx hb dX6_as_61 rfl (lv_at hl 0 rfl) ?_
      refine ka_get (v := .ref aN) (C := RX6) (T := TX6) (Nf := 8) (ref := "BeepNet") hx hb hts hiX6 hown hK hP 0 rfl rfl 1 (by decide) k_1 rfl rfl dX6_as_62 ?_
      refine lv_iload_n hx hb dX6_as_65 rfl (lv_at hl 1 rfl) ?_
      obtain ⟨r4202, e4203, h⟩ := bd1_s h
      refine kc_vi (rest := []) (wr := [(aB, .inr (6, [.ref aS, .ref aN, .ref aR, .ref aT, .ref aQ, .ref aK, .int t1, .int B_latestFault]))]) (wF := [(aB, .inr (6, [.ref aS, .ref aN, .ref aR, .ref aT, .ref aQ, .ref aK, .int t1, .int B_latestFault])), (aN, .inr (1, [.ref aN_neighbours, .int N_posts])), (aN_neighbours, .inl (cI, 8, .inl N_neighbours))]) ⟨hx, hb, hml, hown, hts⟩ (c_X1_degree l dC dI cI cJ cZ cA aN aN_neighbours N_posts N_neighbours x1 r4202 e4203) (cwV 1 hts gX6_as_X1_degree rfl rfl rfl (by decide +kernel) ⟨Nat.le_of_ble_eq_true rfl, Nat.le_of_ble_eq_true rfl⟩) hK hP hD hS hA [1, 2] [0] [0, 1, 2] 0 rfl rfl rfl rfl (by decide) rfl rfl rfl rfl rfl rfl hl.1 rfl (Nat.le_of_ble_eq_true rfl) dX6_as_66 ⟨Nat.zero_le _, Nat.zero_le _⟩ (fun H locs hP hD hS => ?_)
      obtain ⟨rfl, rfl⟩ := sj2 h
      exact hret _ _ _ _ _ rfl rfl hP hD hS dX6_as_69
    · have h := ifn c4201 h
      refine lv_ldc hx hb hown k_2 dX6_as_51 ?_
      refine lv_aload_n hx hb dX6_as_53 rfl (lv_at hl 0 rfl) ?_
      refine ka_get (v := .int t1) (C := RX6) (T := TX6) (Nf := 8) (ref := "BeepNet") hx hb hts hiX6 hown hK hP 0 rfl rfl 6 (by decide) k_0 rfl rfl dX6_as_54 ?_
      refine lv_isub hx hb dX6_as_57 ?_
      refine lv_goto (tgt := 69) hx hb dX6_as_58 (by decide) ?_
      obtain ⟨rfl, rfl⟩ := sj2 h
      exact hret _ _ _ _ _ rfl rfl hP hD hS dX6_as_69
  unfold fX6_as at h
  refine lv_aload_n hx hb dX6_as_0 rfl (lv_at hl 0 rfl) ?_
  refine ka_get (v := .ref aN) (C := RX6) (T := TX6) (Nf := 8) (ref := "BeepNet") hx hb hts hiX6 hown hK hP 0 rfl rfl 1 (by decide) k_1 rfl rfl dX6_as_1 ?_
  refine lv_iload_n hx hb dX6_as_4 rfl (lv_at hl 1 rfl) ?_
  obtain ⟨r1, e2, h⟩ := bd1_s h
  refine kc_vi (rest := []) (wr := [(aB, .inr (6, [.ref aS, .ref aN, .ref aR, .ref aT, .ref aQ, .ref aK, .int B_latestFinding, .int B_latestFault])), (aN_neighbours, .inl (cI, 8, .inl N_neighbours))]) (wF := [(aB, .inr (6, [.ref aS, .ref aN, .ref aR, .ref aT, .ref aQ, .ref aK, .int B_latestFinding, .int B_latestFault])), (aN, .inr (1, [.ref aN_neighbours, .int N_posts])), (aN_neighbours, .inl (cI, 8, .inl N_neighbours))]) ⟨hx, hb, hml, hown, hts⟩ (c_X1_hasPost l dC dI cI cJ cZ cA aN aN_neighbours N_posts p0 r1 e2) (cwV 1 hts gX6_as_X1_hasPost rfl rfl rfl (by decide +kernel) ⟨Nat.le_of_ble_eq_true rfl, Nat.le_of_ble_eq_true rfl⟩) hK hP hD hS hA [1] [0, 2] [0, 2, 1] 0 rfl rfl rfl rfl (by decide) rfl rfl rfl rfl rfl rfl hl.1 rfl (Nat.le_of_ble_eq_true rfl) dX6_as_5 ⟨Nat.zero_le _, Nat.zero_le _⟩ (fun H locs hP hD hS => ?_)
  refine lv_if_eq (tgt := 20) hx hb dX6_as_8 (by decide) (fun c3 => ?_) (fun c3 => ?_)
  · have h := ift c3 h
    refine lv_ldc hx hb hown k_3 dX6_as_20 ?_
    obtain ⟨rfl, rfl⟩ := sj2 h
    exact hret _ _ _ _ _ rfl rfl hP hD hS dX6_as_22
  · have h := ifn c3 h
    refine lv_iload_n hx hb dX6_as_11 rfl (lv_at hl 2 rfl) ?_
    refine lv_if_lt (tgt := 20) hx hb dX6_as_12 (by decide) (fun c4 => ?_) (fun c4 => ?_)
    · have h := ift c4 h
      refine lv_ldc hx hb hown k_3 dX6_as_20 ?_
      obtain ⟨rfl, rfl⟩ := sj2 h
      exact hret _ _ _ _ _ rfl rfl hP hD hS dX6_as_22
    · have h := ifn c4 h
      refine lv_iload_n hx hb dX6_as_15 rfl (lv_at hl 2 rfl) ?_
      refine lv_iconst (v := 4) hx hb dX6_as_16 (by decide) ?_
      refine lv_icmp_le (tgt := 23) hx hb dX6_as_17 (by decide) (fun c5 => ?_) (fun c5 => ?_)
      · have h := ift c5 h
        refine lv_aload_n hx hb dX6_as_23 rfl (lv_at hl 0 rfl) ?_
        refine lv_aload_n hx hb dX6_as_24 rfl (lv_at hl 0 rfl) ?_
        refine ka_get (v := .ref aN) (C := RX6) (T := TX6) (Nf := 8) (ref := "BeepNet") hx hb hts hiX6 hown hK hP 0 rfl rfl 1 (by decide) k_1 rfl rfl dX6_as_25 ?_
        refine lv_iload_n hx hb dX6_as_28 rfl (lv_at hl 1 rfl) ?_
        refine lv_iload_n hx hb dX6_as_29 rfl (lv_at hl 2 rfl) ?_
        obtain ⟨r6, e7, h⟩ := bd1_s h
        refine kc_vi (rest := [.ref aB]) (wr := [(aB, .inr (6, [.ref aS, .ref aN, .ref aR, .ref aT, .ref aQ, .ref aK, .int B_latestFinding, .int B_latestFault]))]) (wF := [(aB, .inr (6, [.ref aS, .ref aN, .ref aR, .ref aT, .ref aQ, .ref aK, .int B_latestFinding, .int B_latestFault])), (aN, .inr (1, [.ref aN_neighbours, .int N_posts])), (aN_neighbours, .inl (cI, 8, .inl N_neighbours))]) ⟨hx, hb, hml, hown, hts⟩ (c_X1_isOfKind l dC dI cI cJ cZ cA aN aN_neighbours N_posts N_neighbours p0 p1 r6 e7) (cwV 2 hts gX6_as_X1_isOfKind rfl rfl rfl (by decide +kernel) ⟨Nat.le_of_ble_eq_true rfl, Nat.le_of_ble_eq_true rfl⟩) hK hP hD hS hA [1, 2] [0] [0, 1, 2] 0 rfl rfl rfl rfl (by decide) rfl rfl rfl rfl rfl rfl hl.1 rfl (Nat.le_of_ble_eq_true rfl) dX6_as_30 ⟨Nat.zero_le _, Nat.zero_le _⟩ (fun H locs hP hD hS => ?_)
        refine lv_if_eq (tgt := 40) hx hb dX6_as_33 (by decide) (fun c8 => ?_) (fun c8 => ?_)
        · have h := ift c8 h
          refine lv_iconst (v := 3) hx hb dX6_as_40 (by decide) ?_
          exact hC41 B_latestFinding p0 3 _ _ _ h hP hD hS (lv_sub hl [0, 1] rfl)
        · have h := ifn c8 h
          refine lv_iconst (v := 0) hx hb dX6_as_36 (by decide) ?_
          refine lv_goto (tgt := 41) hx hb dX6_as_37 (by decide) ?_
          exact hC41 B_latestFinding p0 0 _ _ _ h hP hD hS (lv_sub hl [0, 1] rfl)
      · have h := ifn c5 h
        refine lv_ldc hx hb hown k_3 dX6_as_20 ?_
        obtain ⟨rfl, rfl⟩ := sj2 h
        exact hret _ _ _ _ _ rfl rfl hP hD hS dX6_as_22
set_option maxHeartbeats 4000000 in
set_option maxRecDepth 100000 in
theorem c_X6_ask (l : Launch) (dC : Nat → ClassId) (dI : Nat → Nat → Nat) (cI cJ cZ cA : ClassId) (aB aS aN aR aT aQ aK aN_neighbours aK_begun : Nat) (B_latestFinding : Int32) (B_latestFault : Int32) (N_posts : Int32) (N_neighbours : Nat → Int32) (K_length : Int32) (K_begun : Nat → Int32) (p0 : Int32) (p1 : Int32) (rr : Int32) (K_length_z : Int32) (K_begun_z : Nat → Int32) (h : fX6_ask N_posts N_neighbours K_length K_begun p0 p1 = some (rr, K_length_z, K_begun_z)) : Cti l yX6_ask wsX6_ask rmX6_ask (dC, dI) (tyL cI cJ cZ cA) [(aB, .inr (6, [.ref aS, .ref aN, .ref aR, .ref aT, .ref aQ, .ref aK, .int B_latestFinding, .int B_latestFault])), (aN, .inr (1, [.ref aN_neighbours, .int N_posts])), (aN_neighbours, .inl (cI, 8, .inl N_neighbours)), (aK, .inr (0, [.ref aN, .ref aK_begun, .int K_length])), (aK_begun, .inl (cI, 16, .inl K_begun))] [(aB, .inr (6, [.ref aS, .ref aN, .ref aR, .ref aT, .ref aQ, .ref aK, .int B_latestFinding, .int B_latestFault])), (aN, .inr (1, [.ref aN_neighbours, .int N_posts])), (aN_neighbours, .inl (cI, 8, .inl N_neighbours)), (aK, .inr (0, [.ref aN, .ref aK_begun, .int K_length_z])), (aK_begun, .inl (cI, 16, .inl K_begun_z))] [.ref aB, .int p0, .int p1] rr := by
  refine ct_int (ty := .int) (cc := cX6_ask) (maxL := 3) (by decide) rfl (Nat.le_of_ble_eq_true rfl) ?_
  intro p e s m args below meth c A Q ls hx hb hml hown hts hA hK hP hD hS hl hret
  have hl : lv_has ls 3 [(0, .ref aB), (1, .int p0), (2, .int p1)] := hl
  have k_0 := hts (.fieldLink RX6 19 "BeepNet" "net" "LBeepNet$Net;") (by decide +kernel)
  have k_1 := hts (.constant RX6 57 (-1000001)) (by decide +kernel)
  have k_2 := hts (.fieldLink RX6 49 "BeepNet" "asks" "LBeepNet$Asks;") (by decide +kernel)
  have hiX6 : ∀ w ∈ u_ws RX6 TX6 8, w ∈ wsX6_ask := fun w hw => List.mem_cons_of_mem _ (List.mem_append_left _ (List.mem_append_left _ (List.mem_append_right _ hw)))
  unfold fX6_ask at h
  refine lv_aload_n hx hb dX6_ask_0 rfl (lv_at hl 0 rfl) ?_
  refine ka_get (v := .ref aN) (C := RX6) (T := TX6) (Nf := 8) (ref := "BeepNet") hx hb hts hiX6 hown hK hP 0 rfl rfl 1 (by decide) k_0 rfl rfl dX6_ask_1 ?_
  refine lv_iload_n hx hb dX6_ask_4 rfl (lv_at hl 1 rfl) ?_
  obtain ⟨r1, e2, h⟩ := bd1_s h
  refine kc_vi (rest := []) (wr := [(aB, .inr (6, [.ref aS, .ref aN, .ref aR, .ref aT, .ref aQ, .ref aK, .int B_latestFinding, .int B_latestFault])), (aN_neighbours, .inl (cI, 8, .inl N_neighbours)), (aK, .inr (0, [.ref aN, .ref aK_begun, .int K_length])), (aK_begun, .inl (cI, 16, .inl K_begun))]) (wF := [(aB, .inr (6, [.ref aS, .ref aN, .ref aR, .ref aT, .ref aQ, .ref aK, .int B_latestFinding, .int B_latestFault])), (aN, .inr (1, [.ref aN_neighbours, .int N_posts])), (aN_neighbours, .inl (cI, 8, .inl N_neighbours)), (aK, .inr (0, [.ref aN, .ref aK_begun, .int K_length])), (aK_begun, .inl (cI, 16, .inl K_begun))]) ⟨hx, hb, hml, hown, hts⟩ (c_X1_hasPost l dC dI cI cJ cZ cA aN aN_neighbours N_posts p0 r1 e2) (cwV 1 hts gX6_ask_X1_hasPost rfl rfl rfl (by decide +kernel) ⟨Nat.le_of_ble_eq_true rfl, Nat.le_of_ble_eq_true rfl⟩) hK hP hD hS hA [1] [0, 2, 3, 4] [0, 4, 1, 2, 3] 0 rfl rfl rfl rfl (by decide) rfl rfl rfl rfl rfl rfl hl.1 rfl (Nat.le_of_ble_eq_true rfl) dX6_ask_5 ⟨Nat.zero_le _, Nat.zero_le _⟩ (fun H locs hP hD hS => ?_)
  refine lv_if_eq (tgt := 20) hx hb dX6_ask_8 (by decide) (fun c3 => ?_) (fun c3 => ?_)
  · have h := ift c3 h
    refine lv_ldc hx hb hown k_1 dX6_ask_20 ?_
    obtain ⟨rfl, rfl, rfl⟩ := sj3 h
    exact hret _ _ _ _ _ rfl rfl hP hD hS dX6_ask_22
  · have h := ifn c3 h
    refine lv_iload_n hx hb dX6_ask_11 rfl (lv_at hl 2 rfl) ?_
    refine lv_if_lt (tgt := 20) hx hb dX6_ask_12 (by decide) (fun c4 => ?_) (fun c4 => ?_)
    · have h := ift c4 h
      refine lv_ldc hx hb hown k_1 dX6_ask_20 ?_
      obtain ⟨rfl, rfl, rfl⟩ := sj3 h
      exact hret _ _ _ _ _ rfl rfl hP hD hS dX6_ask_22
    · have h := ifn c4 h
      refine lv_iload_n hx hb dX6_ask_15 rfl (lv_at hl 2 rfl) ?_
      refine lv_iconst (v := 1) hx hb dX6_ask_16 (by decide) ?_
      refine lv_icmp_le (tgt := 23) hx hb dX6_ask_17 (by decide) (fun c5 => ?_) (fun c5 => ?_)
      · have h := ift c5 h
        refine lv_aload_n hx hb dX6_ask_23 rfl (lv_at hl 0 rfl) ?_
        refine ka_get (v := .ref aK) (C := RX6) (T := TX6) (Nf := 8) (ref := "BeepNet") hx hb hts hiX6 hown hK hP 0 rfl rfl 5 (by decide) k_2 rfl rfl dX6_ask_24 ?_
        refine lv_iload_n hx hb dX6_ask_27 rfl (lv_at hl 1 rfl) ?_
        refine lv_iload_n hx hb dX6_ask_28 rfl (lv_at hl 2 rfl) ?_
        obtain ⟨r6, K_length_7, K_begun_8, e9, h⟩ := bd3_s h
        refine kc_vi (rest := []) (wr := [(aB, .inr (6, [.ref aS, .ref aN, .ref aR, .ref aT, .ref aQ, .ref aK, .int B_latestFinding, .int B_latestFault]))]) (wF := [(aB, .inr (6, [.ref aS, .ref aN, .ref aR, .ref aT, .ref aQ, .ref aK, .int B_latestFinding, .int B_latestFault])), (aN, .inr (1, [.ref aN_neighbours, .int N_posts])), (aN_neighbours, .inl (cI, 8, .inl N_neighbours)), (aK, .inr (0, [.ref aN, .ref aK_begun, .int K_length_7])), (aK_begun, .inl (cI, 16, .inl K_begun_8))]) ⟨hx, hb, hml, hown, hts⟩ (c_X0_answer l dC dI cI cJ cZ cA aN aN_neighbours aK aK_begun N_posts N_neighbours K_length K_begun p0 p1 r6 K_length_7 K_begun_8 e9) (cwV 2 hts gX6_ask_X0_answer rfl rfl rfl (by decide +kernel) ⟨Nat.le_of_ble_eq_true rfl, Nat.le_of_ble_eq_true rfl⟩) hK hP hD hS hA [1, 2, 3, 4] [0] [0, 1, 2, 3, 4] 2 rfl rfl rfl rfl (by decide) rfl rfl rfl rfl rfl rfl hl.1 rfl (Nat.le_of_ble_eq_true rfl) dX6_ask_29 ⟨Nat.zero_le _, Nat.zero_le _⟩ (fun H locs hP hD hS => ?_)
        obtain ⟨rfl, rfl, rfl⟩ := sj3 h
        exact hret _ _ _ _ _ rfl rfl hP hD hS dX6_ask_32
      · have h := ifn c5 h
        refine lv_ldc hx hb hown k_1 dX6_ask_20 ?_
        obtain ⟨rfl, rfl, rfl⟩ := sj3 h
        exact hret _ _ _ _ _ rfl rfl hP hD hS dX6_ask_22
