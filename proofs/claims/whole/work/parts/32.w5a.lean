set_option maxHeartbeats 4000000 in
set_option maxRecDepth 100000 in
theorem c_X5_soundsIn (l : Launch) (dC : Nat → ClassId) (dI : Nat → Nat → Nat) (cI cJ cZ cA : ClassId) (aT aT_rounds : Nat) (T_size : Int32) (T_rounds : Nat → Int32) (p0 : Int32) (p1 : Int32) (rr : Int32) (h : fX5_soundsIn T_rounds p0 p1 = some rr) : Cti l yX5_soundsIn wsX5_soundsIn rmX5_soundsIn (dC, dI) (tyL cI cJ cZ cA) [(aT, .inr (5, [.ref aT_rounds, .int T_size])), (aT_rounds, .inl (cI, 20, .inl T_rounds))] [(aT, .inr (5, [.ref aT_rounds, .int T_size])), (aT_rounds, .inl (cI, 20, .inl T_rounds))] [.ref aT, .int p0, .int p1] rr := by
  refine ct_int (ty := .int) (cc := cX5_soundsIn) (maxL := 3) (by decide) rfl (Nat.le_of_ble_eq_true rfl) ?_
  intro p e s m args below meth c A Q ls hx hb hml hown hts hA hK hP hD hS hl hret
  have hl : lv_has ls 3 [(0, .ref aT), (1, .int p0), (2, .int p1)] := hl
  have k_0 := hts (.fieldLink RX5 9 "BeepNet$Timetable" "rounds" "[I") (by decide +kernel)
  have hiX5 : ∀ w ∈ u_ws RX5 TX5 2, w ∈ wsX5_soundsIn := fun w hw => List.mem_cons_of_mem _ (List.mem_append_right _ hw)
  unfold fX5_soundsIn at h
  refine lv_aload_n hx hb dX5_soundsIn_0 rfl (lv_at hl 0 rfl) ?_
  refine ka_get (v := .ref aT_rounds) (C := RX5) (T := TX5) (Nf := 2) (ref := "BeepNet$Timetable") hx hb hts hiX5 hown hK hP 0 rfl rfl 0 (by decide) k_0 rfl rfl dX5_soundsIn_1 ?_
  refine lv_iload_n hx hb dX5_soundsIn_4 rfl (lv_at hl 1 rfl) ?_
  obtain ⟨v1, ev1, hn2, h⟩ := ldx_s h
  refine ka_ild hx hb hK hP 1 0 ev1 rfl rfl hn2 dX5_soundsIn_5 ?_
  refine lv_iload_n hx hb dX5_soundsIn_6 rfl (lv_at hl 2 rfl) ?_
  refine lv_iand hx hb dX5_soundsIn_7 ?_
  obtain rfl := sj1 h
  exact hret _ _ _ _ _ rfl rfl hP hD hS dX5_soundsIn_8
set_option maxHeartbeats 4000000 in
set_option maxRecDepth 100000 in
theorem c_X5_soundsOverAndOver (l : Launch) (dC : Nat → ClassId) (dI : Nat → Nat → Nat) (cI cJ cZ cA : ClassId) (aT aT_rounds : Nat) (T_size : Int32) (T_rounds : Nat → Int32) (p0 : Int32) (p1 : Int32) (rr : Int32) (h : fX5_soundsOverAndOver T_size T_rounds p0 p1 = some rr) : Cti l yX5_soundsOverAndOver wsX5_soundsOverAndOver rmX5_soundsOverAndOver (dC, dI) (tyL cI cJ cZ cA) [(aT, .inr (5, [.ref aT_rounds, .int T_size])), (aT_rounds, .inl (cI, 20, .inl T_rounds))] [(aT, .inr (5, [.ref aT_rounds, .int T_size])), (aT_rounds, .inl (cI, 20, .inl T_rounds))] [.ref aT, .int p0, .int p1] rr := by
  refine ct_int (ty := .int) (cc := cX5_soundsOverAndOver) (maxL := 3) (by decide) rfl (Nat.le_of_ble_eq_true rfl) ?_
  intro p e s m args below meth c A Q ls hx hb hml hown hts hA hK hP hD hS hl hret
  have hl : lv_has ls 3 [(0, .ref aT), (1, .int p0), (2, .int p1)] := hl
  have k_0 := hts (.fieldLink RX5 15 "BeepNet$Timetable" "size" "I") (by decide +kernel)
  have hiX5 : ∀ w ∈ u_ws RX5 TX5 2, w ∈ wsX5_soundsOverAndOver := fun w hw => List.mem_cons_of_mem _ (List.mem_append_right _ hw)
  unfold fX5_soundsOverAndOver at h
  refine lv_aload_n hx hb dX5_soundsOverAndOver_0 rfl (lv_at hl 0 rfl) ?_
  refine ka_get (v := .int T_size) (C := RX5) (T := TX5) (Nf := 2) (ref := "BeepNet$Timetable") hx hb hts hiX5 hown hK hP 0 rfl rfl 1 (by decide) k_0 rfl rfl dX5_soundsOverAndOver_1 ?_
  refine lv_if_ne (tgt := 11) hx hb dX5_soundsOverAndOver_4 (by decide) (fun c1 => ?_) (fun c1 => ?_)
  · have h := ifn c1 h
    refine lv_aload_n hx hb dX5_soundsOverAndOver_11 rfl (lv_at hl 0 rfl) ?_
    refine lv_iload_n hx hb dX5_soundsOverAndOver_12 rfl (lv_at hl 1 rfl) ?_
    refine lv_aload_n hx hb dX5_soundsOverAndOver_13 rfl (lv_at hl 0 rfl) ?_
    refine ka_get (v := .int T_size) (C := RX5) (T := TX5) (Nf := 2) (ref := "BeepNet$Timetable") hx hb hts hiX5 hown hK hP 0 rfl rfl 1 (by decide) k_0 rfl rfl dX5_soundsOverAndOver_14 ?_
    obtain ⟨hz2, h⟩ := nzx_s h
    refine lv_irem hx hb dX5_soundsOverAndOver_17 hz2 ?_
    refine lv_iload_n hx hb dX5_soundsOverAndOver_18 rfl (lv_at hl 2 rfl) ?_
    obtain ⟨r3, e4, h⟩ := bd1_s h
    refine kc_vi (rest := []) (wr := []) (wF := [(aT, .inr (5, [.ref aT_rounds, .int T_size])), (aT_rounds, .inl (cI, 20, .inl T_rounds))]) ⟨hx, hb, hml, hown, hts⟩ (c_X5_soundsIn l dC dI cI cJ cZ cA aT aT_rounds T_size T_rounds (p0 - p0 / T_size * T_size) p1 r3 e4) (cwV 2 hts gX5_soundsOverAndOver_X5_soundsIn rfl rfl rfl (by decide +kernel) ⟨Nat.le_of_ble_eq_true rfl, Nat.le_of_ble_eq_true rfl⟩) hK hP hD hS hA [0, 1] [] [0, 1] 0 rfl rfl rfl rfl (by decide) rfl rfl rfl rfl rfl rfl hl.1 rfl (Nat.le_of_ble_eq_true rfl) dX5_soundsOverAndOver_19 ⟨Nat.zero_le _, Nat.zero_le _⟩ (fun H locs hP hD hS => ?_)
    obtain rfl := sj1 h
    exact hret _ _ _ _ _ rfl rfl hP hD hS dX5_soundsOverAndOver_22
  · have h := ift c1 h
    refine lv_iconst (v := 0) hx hb dX5_soundsOverAndOver_7 (by decide) ?_
    refine lv_goto (tgt := 22) hx hb dX5_soundsOverAndOver_8 (by decide) ?_
    obtain rfl := sj1 h
    exact hret _ _ _ _ _ rfl rfl hP hD hS dX5_soundsOverAndOver_22
set_option maxHeartbeats 4000000 in
set_option maxRecDepth 100000 in
theorem c_X5_size (l : Launch) (dC : Nat → ClassId) (dI : Nat → Nat → Nat) (cI cJ cZ cA : ClassId) (aT aT_rounds : Nat) (T_size : Int32) (rr : Int32) (h : fX5_size T_size = some rr) : Cti l yX5_size wsX5_size rmX5_size (dC, dI) (tyL cI cJ cZ cA) [(aT, .inr (5, [.ref aT_rounds, .int T_size]))] [(aT, .inr (5, [.ref aT_rounds, .int T_size]))] [.ref aT] rr := by
  refine ct_int (ty := .int) (cc := cX5_size) (maxL := 1) (by decide) rfl (Nat.le_of_ble_eq_true rfl) ?_
  intro p e s m args below meth c A Q ls hx hb hml hown hts hA hK hP hD hS hl hret
  have hl : lv_has ls 1 [(0, .ref aT)] := hl
  have k_0 := hts (.fieldLink RX5 15 "BeepNet$Timetable" "size" "I") (by decide +kernel)
  have hiX5 : ∀ w ∈ u_ws RX5 TX5 2, w ∈ wsX5_size := fun w hw => List.mem_cons_of_mem _ (List.mem_append_right _ hw)
  unfold fX5_size at h
  refine lv_aload_n hx hb dX5_size_0 rfl (lv_at hl 0 rfl) ?_
  refine ka_get (v := .int T_size) (C := RX5) (T := TX5) (Nf := 2) (ref := "BeepNet$Timetable") hx hb hts hiX5 hown hK hP 0 rfl rfl 1 (by decide) k_0 rfl rfl dX5_size_1 ?_
  obtain rfl := sj1 h
  exact hret _ _ _ _ _ rfl rfl hP hD hS dX5_size_4
set_option maxHeartbeats 4000000 in
set_option maxRecDepth 100000 in
theorem c_X5_become (l : Launch) (dC : Nat → ClassId) (dI : Nat → Nat → Nat) (cI cJ cZ cA : ClassId) (aR aR_tape aR_rounds aT aT_rounds : Nat) (R_length : Int32) (R_roundsRead : Int32) (R_token : Int32) (R_start : Int32) (R_behind : Int32) (R_number : Int32) (R_rounds : Nat → Int32) (T_size : Int32) (T_rounds : Nat → Int32) (T_size_z : Int32) (T_rounds_z : Nat → Int32) (h : fX5_become R_roundsRead R_rounds T_size T_rounds = some (T_size_z, T_rounds_z)) : Ctv l yX5_become wsX5_become rmX5_become (dC, dI) (tyL cI cJ cZ cA) [(aR, .inr (2, [.ref aR_tape, .ref aR_rounds, .int R_length, .int R_roundsRead, .int R_token, .int R_start, .int R_behind, .int R_number])), (aR_rounds, .inl (cI, 20, .inl R_rounds)), (aT, .inr (5, [.ref aT_rounds, .int T_size])), (aT_rounds, .inl (cI, 20, .inl T_rounds))] [(aR, .inr (2, [.ref aR_tape, .ref aR_rounds, .int R_length, .int R_roundsRead, .int R_token, .int R_start, .int R_behind, .int R_number])), (aR_rounds, .inl (cI, 20, .inl R_rounds)), (aT, .inr (5, [.ref aT_rounds, .int T_size_z])), (aT_rounds, .inl (cI, 20, .inl T_rounds_z))] [.ref aT, .ref aR] := by
  refine ct_void (cc := cX5_become) (maxL := 2) (by decide) rfl (Nat.le_of_ble_eq_true rfl) ?_
  intro p e s m args below meth c A Q ls hx hb hml hown hts hA hK hP hD hS hl hret
  have hl : lv_has ls 2 [(0, .ref aT), (1, .ref aR)] := hl
  have k_0 := hts (.fieldLink RX5 9 "BeepNet$Timetable" "rounds" "[I") (by decide +kernel)
  have k_1 := hts (.fieldLink RX5 15 "BeepNet$Timetable" "size" "I") (by decide +kernel)
  have hiX5 : ∀ w ∈ u_ws RX5 TX5 2, w ∈ wsX5_become := fun w hw => List.mem_cons_of_mem _ (List.mem_append_left _ (List.mem_append_right _ hw))
  unfold fX5_become at h
  refine lv_aload_n hx hb dX5_become_0 rfl (lv_at hl 0 rfl) ?_
  refine lv_aload_n hx hb dX5_become_1 rfl (lv_at hl 1 rfl) ?_
  refine lv_aload_n hx hb dX5_become_2 rfl (lv_at hl 0 rfl) ?_
  refine ka_get (v := .ref aT_rounds) (C := RX5) (T := TX5) (Nf := 2) (ref := "BeepNet$Timetable") hx hb hts hiX5 hown hK hP 2 rfl rfl 0 (by decide) k_0 rfl rfl dX5_become_3 ?_
  obtain ⟨r1, T_rounds_2, e3, h⟩ := bd2_s h
  refine kc_vi (rest := [.ref aT]) (wr := [(aT, .inr (5, [.ref aT_rounds, .int T_size]))]) (wF := [(aR, .inr (2, [.ref aR_tape, .ref aR_rounds, .int R_length, .int R_roundsRead, .int R_token, .int R_start, .int R_behind, .int R_number])), (aR_rounds, .inl (cI, 20, .inl R_rounds)), (aT, .inr (5, [.ref aT_rounds, .int T_size])), (aT_rounds, .inl (cI, 20, .inl T_rounds_2))]) ⟨hx, hb, hml, hown, hts⟩ (c_X2_giveRounds l dC dI cI cJ cZ cA aR aR_tape aR_rounds aT_rounds R_length R_roundsRead R_token R_start R_behind R_number R_rounds T_rounds r1 T_rounds_2 e3) (cwV 1 hts gX5_become_X2_giveRounds rfl rfl rfl (by decide +kernel) ⟨Nat.le_of_ble_eq_true rfl, Nat.le_of_ble_eq_true rfl⟩) hK hP hD hS hA [0, 1, 3] [2] [1, 2, 0, 3] 0 rfl rfl rfl rfl (by decide) rfl rfl rfl rfl rfl rfl hl.1 rfl (Nat.le_of_ble_eq_true rfl) dX5_become_6 ⟨Nat.zero_le _, Nat.zero_le _⟩ (fun H locs hP hD hS => ?_)
  refine ka_put (w1 := [(aR, .inr (2, [.ref aR_tape, .ref aR_rounds, .int R_length, .int R_roundsRead, .int R_token, .int R_start, .int R_behind, .int R_number])), (aR_rounds, .inl (cI, 20, .inl R_rounds)), (aT, .inr (5, [.ref aT_rounds, .int r1])), (aT_rounds, .inl (cI, 20, .inl T_rounds_2))]) (C := RX5) (T := TX5) (Nf := 2) (ref := "BeepNet$Timetable") hx hb hts hiX5 tyX5 tyX5_ok nmX5 hown hK hP hD hS 2 rfl rfl 1 (by decide) k_1 rfl rfl rfl (Nat.le_of_ble_eq_true rfl) dX5_become_9 rfl (fun H locs hP hD hS => ?_)
  obtain ⟨rfl, rfl⟩ := sj2 h
  exact hret _ _ _ _ hP hD hS dX5_become_12
set_option maxHeartbeats 4000000 in
set_option maxRecDepth 100000 in
theorem c_X5_hasRound (l : Launch) (dC : Nat → ClassId) (dI : Nat → Nat → Nat) (cI cJ cZ cA : ClassId) (aT aT_rounds : Nat) (T_size : Int32) (p0 : Int32) (rr : Int32) (h : fX5_hasRound T_size p0 = some rr) : Cti l yX5_hasRound wsX5_hasRound rmX5_hasRound (dC, dI) (tyL cI cJ cZ cA) [(aT, .inr (5, [.ref aT_rounds, .int T_size]))] [(aT, .inr (5, [.ref aT_rounds, .int T_size]))] [.ref aT, .int p0] rr := by
  refine ct_int (ty := .boolean) (cc := cX5_hasRound) (maxL := 2) (by decide) rfl (Nat.le_of_ble_eq_true rfl) ?_
  intro p e s m args below meth c A Q ls hx hb hml hown hts hA hK hP hD hS hl hret
  have hl : lv_has ls 2 [(0, .ref aT), (1, .int p0)] := hl
  have k_0 := hts (.fieldLink RX5 15 "BeepNet$Timetable" "size" "I") (by decide +kernel)
  have hiX5 : ∀ w ∈ u_ws RX5 TX5 2, w ∈ wsX5_hasRound := fun w hw => List.mem_cons_of_mem _ (List.mem_append_right _ hw)
  unfold fX5_hasRound at h
  refine lv_iload_n hx hb dX5_hasRound_0 rfl (lv_at hl 1 rfl) ?_
  refine lv_if_lt (tgt := 16) hx hb dX5_hasRound_1 (by decide) (fun c1 => ?_) (fun c1 => ?_)
  · have h := ift c1 h
    refine lv_iconst (v := 0) hx hb dX5_hasRound_16 (by decide) ?_
    obtain rfl := sj1 h
    exact hret _ _ _ _ _ rfl rfl hP hD hS dX5_hasRound_17
  · have h := ifn c1 h
    refine lv_iload_n hx hb dX5_hasRound_4 rfl (lv_at hl 1 rfl) ?_
    refine lv_aload_n hx hb dX5_hasRound_5 rfl (lv_at hl 0 rfl) ?_
    refine ka_get (v := .int T_size) (C := RX5) (T := TX5) (Nf := 2) (ref := "BeepNet$Timetable") hx hb hts hiX5 hown hK hP 0 rfl rfl 1 (by decide) k_0 rfl rfl dX5_hasRound_6 ?_
    refine lv_icmp_ge (tgt := 16) hx hb dX5_hasRound_9 (by decide) (fun c2 => ?_) (fun c2 => ?_)
    · have h := ift c2 h
      refine lv_iconst (v := 0) hx hb dX5_hasRound_16 (by decide) ?_
      obtain rfl := sj1 h
      exact hret _ _ _ _ _ rfl rfl hP hD hS dX5_hasRound_17
    · have h := ifn c2 h
      refine lv_iconst (v := 1) hx hb dX5_hasRound_12 (by decide) ?_
      refine lv_goto (tgt := 17) hx hb dX5_hasRound_13 (by decide) ?_
      obtain rfl := sj1 h
      exact hret _ _ _ _ _ rfl rfl hP hD hS dX5_hasRound_17
