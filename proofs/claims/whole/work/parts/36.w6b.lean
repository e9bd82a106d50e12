set_option maxHeartbeats 4000000 in
set_option maxRecDepth 100000 in
theorem c_X6_told (l : Launch) (dC : Nat → ClassId) (dI : Nat → Nat → Nat) (cI cJ cZ cA : ClassId) (aB aS aN aR aT aQ aK aN_neighbours : Nat) (B_latestFinding : Int32) (B_latestFault : Int32) (N_posts : Int32) (N_neighbours : Nat → Int32) (p0 : Int32) (p1 : Int32) (rr : Int32) (h : fX6_told N_posts N_neighbours p0 p1 = some rr) : Cti l yX6_told wsX6_told rmX6_told (dC, dI) (tyL cI cJ cZ cA) [(aB, .inr (6, [.ref aS, .ref aN, .ref aR, .ref aT, .ref aQ, .ref aK, .int B_latestFinding, .int B_latestFault])), (aN, .inr (1, [.ref aN_neighbours, .int N_posts])), (aN_neighbours, .inl (cI, 8, .inl N_neighbours))] [(aB, .inr (6, [.ref aS, .ref aN, .ref aR, .ref aT, .ref aQ, .ref aK, .int B_latestFinding, .int B_latestFault])), (aN, .inr (1, [.ref aN_neighbours, .int N_posts])), (aN_neighbours, .inl (cI, 8, .inl N_neighbours))] [.ref aB, .int p0, .int p1] rr := by
  refine ct_int (ty := .int) (cc := cX6_told) (maxL := 3) (by decide) rfl (Nat.le_of_ble_eq_true rfl) ?_
  intro p e s m args below meth c A Q ls hx hb hml hown hts hA hK hP hD hS hl hret
  have hl : lv_has ls 3 [(0, .ref aB), (1, .int p0), (2, .int p1)] := hl
  have k_0 := hts (.fieldLink RX6 19 "BeepNet" "net" "LBeepNet$Net;") (by decide +kernel)
  have k_1 := hts (.constant RX6 57 (-1000001)) (by decide +kernel)
  have hiX6 : ∀ w ∈ u_ws RX6 TX6 8, w ∈ wsX6_told := fun w hw => List.mem_cons_of_mem _ (List.mem_append_left _ (List.mem_append_right _ hw))
  unfold fX6_told at h
  refine lv_aload_n hx hb dX6_told_0 rfl (lv_at hl 0 rfl) ?_
  refine ka_get (v := .ref aN) (C := RX6) (T := TX6) (Nf := 8) (ref := "BeepNet") hx hb hts hiX6 hown hK hP 0 rfl rfl 1 (by decide) k_0 rfl rfl dX6_told_1 ?_
  refine lv_iload_n hx hb dX6_told_4 rfl (lv_at hl 1 rfl) ?_
  obtain ⟨r1, e2, h⟩ := bd1_s h
  refine kc_vi (rest := []) (wr := [(aB, .inr (6, [.ref aS, .ref aN, .ref aR, .ref aT, .ref aQ, .ref aK, .int B_latestFinding, .int B_latestFault])), (aN_neighbours, .inl (cI, 8, .inl N_neighbours))]) (wF := [(aB, .inr (6, [.ref aS, .ref aN, .ref aR, .ref aT, .ref aQ, .ref aK, .int B_latestFinding, .int B_latestFault])), (aN, .inr (1, [.ref aN_neighbours, .int N_posts])), (aN_neighbours, .inl (cI, 8, .inl N_neighbours))]) ⟨hx, hb, hml, hown, hts⟩ (c_X1_hasPost l dC dI cI cJ cZ cA aN aN_neighbours N_posts p0 r1 e2) (cwV 1 hts gX6_told_X1_hasPost rfl rfl rfl (by decide +kernel) ⟨Nat.le_of_ble_eq_true rfl, Nat.le_of_ble_eq_true rfl⟩) hK hP hD hS hA [1] [0, 2] [0, 2, 1] 0 rfl rfl rfl rfl (by decide) rfl rfl rfl rfl rfl rfl hl.1 rfl (Nat.le_of_ble_eq_true rfl) dX6_told_5 ⟨Nat.zero_le _, Nat.zero_le _⟩ (fun H locs hP hD hS => ?_)
  refine lv_if_ne (tgt := 14) hx hb dX6_told_8 (by decide) (fun c3 => ?_) (fun c3 => ?_)
  · have h := ifn c3 h
    refine lv_iload_n hx hb dX6_told_14 rfl (lv_at hl 2 rfl) ?_
    by_cases c4 : p1 = 0
    · have h := ift c4 h
      refine lv_tableIn (tgt := 44) hx hb dX6_told_15 (by rw [c4]; decide) (by rw [c4]; decide) (by rw [c4]; rfl) (by decide) ?_
      refine lv_aload_n hx hb dX6_told_44 rfl (lv_at hl 0 rfl) ?_
      refine ka_get (v := .ref aN) (C := RX6) (T := TX6) (Nf := 8) (ref := "BeepNet") hx hb hts hiX6 hown hK hP 0 rfl rfl 1 (by decide) k_0 rfl rfl dX6_told_45 ?_
      refine lv_iload_n hx hb dX6_told_48 rfl (lv_at hl 1 rfl) ?_
      obtain ⟨r5, e6, h⟩ := bd1_s h
      refine kc_vi (rest := []) (wr := [(aB, .inr (6, [.ref aS, .ref aN, .ref aR, .ref aT, .ref aQ, .ref aK, .int B_latestFinding, .int B_latestFault]))]) (wF := [(aB, .inr (6, [.ref aS, .ref aN, .ref aR, .ref aT, .ref aQ, .ref aK, .int B_latestFinding, .int B_latestFault])), (aN, .inr (1, [.ref aN_neighbours, .int N_posts])), (aN_neighbours, .inl (cI, 8, .inl N_neighbours))]) ⟨hx, hb, hml, hown, hts⟩ (c_X1_degree l dC dI cI cJ cZ cA aN aN_neighbours N_posts N_neighbours p0 r5 e6) (cwV 1 hts gX6_told_X1_degree rfl rfl rfl (by decide +kernel) ⟨Nat.le_of_ble_eq_true rfl, Nat.le_of_ble_eq_true rfl⟩) hK hP hD hS hA [1, 2] [0] [0, 1, 2] 0 rfl rfl rfl rfl (by decide) rfl rfl rfl rfl rfl rfl hl.1 rfl (Nat.le_of_ble_eq_true rfl) dX6_told_49 ⟨Nat.zero_le _, Nat.zero_le _⟩ (fun H locs hP hD hS => ?_)
      obtain rfl := sj1 h
      exact hret _ _ _ _ _ rfl rfl hP hD hS dX6_told_52
    · have h := ifn c4 h
      by_cases c7 : p1 = 1
      · have h := ift c7 h
        refine lv_tableIn (tgt := 53) hx hb dX6_told_15 (by rw [c7]; decide) (by rw [c7]; decide) (by rw [c7]; rfl) (by decide) ?_
        refine lv_aload_n hx hb dX6_told_53 rfl (lv_at hl 0 rfl) ?_
        refine ka_get (v := .ref aN) (C := RX6) (T := TX6) (Nf := 8) (ref := "BeepNet") hx hb hts hiX6 hown hK hP 0 rfl rfl 1 (by decide) k_0 rfl rfl dX6_told_54 ?_
        refine lv_iload_n hx hb dX6_told_57 rfl (lv_at hl 1 rfl) ?_
        obtain ⟨r8, e9, h⟩ := bd1_s h
        refine kc_vi (rest := []) (wr := [(aB, .inr (6, [.ref aS, .ref aN, .ref aR, .ref aT, .ref aQ, .ref aK, .int B_latestFinding, .int B_latestFault]))]) (wF := [(aB, .inr (6, [.ref aS, .ref aN, .ref aR, .ref aT, .ref aQ, .ref aK, .int B_latestFinding, .int B_latestFault])), (aN, .inr (1, [.ref aN_neighbours, .int N_posts])), (aN_neighbours, .inl (cI, 8, .inl N_neighbours))]) ⟨hx, hb, hml, hown, hts⟩ (c_X1_neighboursOf l dC dI cI cJ cZ cA aN aN_neighbours N_posts N_neighbours p0 r8 e9) (cwV 1 hts gX6_told_X1_neighboursOf rfl rfl rfl (by decide +kernel) ⟨Nat.le_of_ble_eq_true rfl, Nat.le_of_ble_eq_true rfl⟩) hK hP hD hS hA [1, 2] [0] [0, 1, 2] 0 rfl rfl rfl rfl (by decide) rfl rfl rfl rfl rfl rfl hl.1 rfl (Nat.le_of_ble_eq_true rfl) dX6_told_58 ⟨Nat.zero_le _, Nat.zero_le _⟩ (fun H locs hP hD hS => ?_)
        obtain rfl := sj1 h
        exact hret _ _ _ _ _ rfl rfl hP hD hS dX6_told_61
      · have h := ifn c7 h
        by_cases c10 : p1 = 2
        · have h := ift c10 h
          refine lv_tableIn (tgt := 62) hx hb dX6_told_15 (by rw [c10]; decide) (by rw [c10]; decide) (by rw [c10]; rfl) (by decide) ?_
          refine lv_aload_n hx hb dX6_told_62 rfl (lv_at hl 0 rfl) ?_
          refine ka_get (v := .ref aN) (C := RX6) (T := TX6) (Nf := 8) (ref := "BeepNet") hx hb hts hiX6 hown hK hP 0 rfl rfl 1 (by decide) k_0 rfl rfl dX6_told_63 ?_
          refine lv_iload_n hx hb dX6_told_66 rfl (lv_at hl 1 rfl) ?_
          obtain ⟨r11, e12, h⟩ := bd1_s h
          refine kc_vi (rest := []) (wr := [(aB, .inr (6, [.ref aS, .ref aN, .ref aR, .ref aT, .ref aQ, .ref aK, .int B_latestFinding, .int B_latestFault]))]) (wF := [(aB, .inr (6, [.ref aS, .ref aN, .ref aR, .ref aT, .ref aQ, .ref aK, .int B_latestFinding, .int B_latestFault])), (aN, .inr (1, [.ref aN_neighbours, .int N_posts])), (aN_neighbours, .inl (cI, 8, .inl N_neighbours))]) ⟨hx, hb, hml, hown, hts⟩ (c_X1_width l dC dI cI cJ cZ cA aN aN_neighbours N_posts N_neighbours p0 r11 e12) (cwV 1 hts gX6_told_X1_width rfl rfl rfl (by decide +kernel) ⟨Nat.le_of_ble_eq_true rfl, Nat.le_of_ble_eq_true rfl⟩) hK hP hD hS hA [1, 2] [0] [0, 1, 2] 0 rfl rfl rfl rfl (by decide) rfl rfl rfl rfl rfl rfl hl.1 rfl (Nat.le_of_ble_eq_true rfl) dX6_told_67 ⟨Nat.zero_le _, Nat.zero_le _⟩ (fun H locs hP hD hS => ?_)
          obtain rfl := sj1 h
          exact hret _ _ _ _ _ rfl rfl hP hD hS dX6_told_70
        · have h := ifn c10 h
          by_cases c13 : p1 = 3
          · have h := ift c13 h
            refine lv_tableIn (tgt := 71) hx hb dX6_told_15 (by rw [c13]; decide) (by rw [c13]; decide) (by rw [c13]; rfl) (by decide) ?_
            refine lv_aload_n hx hb dX6_told_71 rfl (lv_at hl 0 rfl) ?_
            refine ka_get (v := .ref aN) (C := RX6) (T := TX6) (Nf := 8) (ref := "BeepNet") hx hb hts hiX6 hown hK hP 0 rfl rfl 1 (by decide) k_0 rfl rfl dX6_told_72 ?_
            refine lv_iconst (v := 1) hx hb dX6_told_75 (by decide) ?_
            refine lv_iload_n hx hb dX6_told_76 rfl (lv_at hl 1 rfl) ?_
            refine lv_ishl hx hb dX6_told_77 ?_
            obtain ⟨r14, e15, h⟩ := bd1_s h
            refine kc_vi (rest := []) (wr := [(aB, .inr (6, [.ref aS, .ref aN, .ref aR, .ref aT, .ref aQ, .ref aK, .int B_latestFinding, .int B_latestFault]))]) (wF := [(aB, .inr (6, [.ref aS, .ref aN, .ref aR, .ref aT, .ref aQ, .ref aK, .int B_latestFinding, .int B_latestFault])), (aN, .inr (1, [.ref aN_neighbours, .int N_posts])), (aN_neighbours, .inl (cI, 8, .inl N_neighbours))]) ⟨hx, hb, hml, hown, hts⟩ (c_X1_reachOf l dC dI cI cJ cZ cA aN aN_neighbours N_posts N_neighbours ((1 : Int32) <<< (p0 &&& 31)) r14 e15) (cwV 1 hts gX6_told_X1_reachOf rfl rfl rfl (by decide +kernel) ⟨Nat.le_of_ble_eq_true rfl, Nat.le_of_ble_eq_true rfl⟩) hK hP hD hS hA [1, 2] [0] [0, 1, 2] 0 rfl rfl rfl rfl (by decide) rfl rfl rfl rfl rfl rfl hl.1 rfl (Nat.le_of_ble_eq_true rfl) dX6_told_78 ⟨Nat.zero_le _, Nat.zero_le _⟩ (fun H locs hP hD hS => ?_)
            obtain rfl := sj1 h
            exact hret _ _ _ _ _ rfl rfl hP hD hS dX6_told_81
          · have h := ifn c13 h
            refine lv_tableOut (tgt := 82) hx hb dX6_told_15 (sw_out0_3 c4 c7 c10 c13) (by decide) ?_
            refine lv_ldc hx hb hown k_1 dX6_told_82 ?_
            obtain rfl := sj1 h
            exact hret _ _ _ _ _ rfl rfl hP hD hS dX6_told_84
  · have h := ift c3 h
    refine lv_ldc hx hb hown k_1 dX6_told_11 ?_
    obtain rfl := sj1 h
    exact hret _ _ _ _ _ rfl rfl hP hD hS dX6_told_13
set_option maxHeartbeats 4000000 in
set_option maxRecDepth 100000 in
theorem c_X6_isHearing (l : Launch) (dC : Nat → ClassId) (dI : Nat → Nat → Nat) (cI cJ cZ cA : ClassId) (p0 : Int32) (rr : Int32) (h : fX6_isHearing p0 = some rr) : Cti l yX6_isHearing wsX6_isHearing rmX6_isHearing (dC, dI) (tyL cI cJ cZ cA) [] [] [.int p0] rr := by
  refine ct_int (ty := .boolean) (cc := cX6_isHearing) (maxL := 1) (by decide) rfl (Nat.le_of_ble_eq_true rfl) ?_
  intro p e s m args below meth c A Q ls hx hb hml hown hts hA hK hP hD hS hl hret
  have hl : lv_has ls 1 [(0, .int p0)] := hl
  unfold fX6_isHearing at h
  refine lv_iload_n hx hb dX6_isHearing_0 rfl (lv_at hl 0 rfl) ?_
  refine lv_if_eq (tgt := 9) hx hb dX6_isHearing_1 (by decide) (fun c1 => ?_) (fun c1 => ?_)
  · have h := ift c1 h
    refine lv_iconst (v := 1) hx hb dX6_isHearing_9 (by decide) ?_
    refine lv_goto (tgt := 14) hx hb dX6_isHearing_10 (by decide) ?_
    obtain rfl := sj1 h
    exact hret _ _ _ _ _ rfl rfl hP hD hS dX6_isHearing_14
  · have h := ifn c1 h
    refine lv_iload_n hx hb dX6_isHearing_4 rfl (lv_at hl 0 rfl) ?_
    refine lv_iconst (v := 1) hx hb dX6_isHearing_5 (by decide) ?_
    refine lv_icmp_ne (tgt := 13) hx hb dX6_isHearing_6 (by decide) (fun c2 => ?_) (fun c2 => ?_)
    · have h := ifn c2 h
      refine lv_iconst (v := 0) hx hb dX6_isHearing_13 (by decide) ?_
      obtain rfl := sj1 h
      exact hret _ _ _ _ _ rfl rfl hP hD hS dX6_isHearing_14
    · have h := ift c2 h
      refine lv_iconst (v := 1) hx hb dX6_isHearing_9 (by decide) ?_
      refine lv_goto (tgt := 14) hx hb dX6_isHearing_10 (by decide) ?_
      obtain rfl := sj1 h
      exact hret _ _ _ _ _ rfl rfl hP hD hS dX6_isHearing_14
set_option maxHeartbeats 4000000 in
set_option maxRecDepth 100000 in
theorem c_X6_hears (l : Launch) (dC : Nat → ClassId) (dI : Nat → Nat → Nat) (cI cJ cZ cA : ClassId) (aB aS aN aR aT aQ aK aN_neighbours : Nat) (B_latestFinding : Int32) (B_latestFault : Int32) (N_posts : Int32) (N_neighbours : Nat → Int32) (p0 : Int32) (p1 : Int32) (rr : Int32) (h : fX6_hears N_posts N_neighbours p0 p1 = some rr) : Cti l yX6_hears wsX6_hears rmX6_hears (dC, dI) (tyL cI cJ cZ cA) [(aB, .inr (6, [.ref aS, .ref aN, .ref aR, .ref aT, .ref aQ, .ref aK, .int B_latestFinding, .int B_latestFault])), (aN, .inr (1, [.ref aN_neighbours, .int N_posts])), (aN_neighbours, .inl (cI, 8, .inl N_neighbours))] [(aB, .inr (6, [.ref aS, .ref aN, .ref aR, .ref aT, .ref aQ, .ref aK, .int B_latestFinding, .int B_latestFault])), (aN, .inr (1, [.ref aN_neighbours, .int N_posts])), (aN_neighbours, .inl (cI, 8, .inl N_neighbours))] [.ref aB, .int p0, .int p1] rr := by
  refine ct_int (ty := .int) (cc := cX6_hears) (maxL := 3) (by decide) rfl (Nat.le_of_ble_eq_true rfl) ?_
  intro p e s m args below meth c A Q ls hx hb hml hown hts hA hK hP hD hS hl hret
  have hl : lv_has ls 3 [(0, .ref aB), (1, .int p0), (2, .int p1)] := hl
  have k_0 := hts (.constant RX6 57 (-1000001)) (by decide +kernel)
  have k_1 := hts (.fieldLink RX6 19 "BeepNet" "net" "LBeepNet$Net;") (by decide +kernel)
  have hiX6 : ∀ w ∈ u_ws RX6 TX6 8, w ∈ wsX6_hears := fun w hw => List.mem_cons_of_mem _ (List.mem_append_left _ (List.mem_append_right _ hw))
  unfold fX6_hears at h
  refine lv_iload_n hx hb dX6_hears_0 rfl (lv_at hl 1 rfl) ?_
  obtain ⟨r1, e2, h⟩ := bd1_s h
  refine kc_si (rest := []) (wr := [(aB, .inr (6, [.ref aS, .ref aN, .ref aR, .ref aT, .ref aQ, .ref aK, .int B_latestFinding, .int B_latestFault])), (aN, .inr (1, [.ref aN_neighbours, .int N_posts])), (aN_neighbours, .inl (cI, 8, .inl N_neighbours))]) (wF := [(aB, .inr (6, [.ref aS, .ref aN, .ref aR, .ref aT, .ref aQ, .ref aK, .int B_latestFinding, .int B_latestFault])), (aN, .inr (1, [.ref aN_neighbours, .int N_posts])), (aN_neighbours, .inl (cI, 8, .inl N_neighbours))]) ⟨hx, hb, hml, hown, hts⟩ (c_X6_isHearing l dC dI cI cJ cZ cA p0 r1 e2) (va_cwS 1 hts gX6_hears_X6_isHearing rfl rfl rfl (by decide +kernel) ⟨Nat.le_of_ble_eq_true rfl, Nat.le_of_ble_eq_true rfl⟩) hK hP hD hS hA [] [0, 1, 2] [0, 1, 2] rfl rfl rfl rfl (by decide) rfl rfl rfl hl.1 rfl (Nat.le_of_ble_eq_true rfl) dX6_hears_1 ⟨Nat.zero_le _, Nat.zero_le _⟩ (fun H locs hP hD hS => ?_)
  refine lv_if_eq (tgt := 18) hx hb dX6_hears_4 (by decide) (fun c3 => ?_) (fun c3 => ?_)
  · have h := ift c3 h
    refine lv_ldc hx hb hown k_0 dX6_hears_18 ?_
    obtain rfl := sj1 h
    exact hret _ _ _ _ _ rfl rfl hP hD hS dX6_hears_20
  · have h := ifn c3 h
    refine lv_aload_n hx hb dX6_hears_7 rfl (lv_at hl 0 rfl) ?_
    refine ka_get (v := .ref aN) (C := RX6) (T := TX6) (Nf := 8) (ref := "BeepNet") hx hb hts hiX6 hown hK hP 0 rfl rfl 1 (by decide) k_1 rfl rfl dX6_hears_8 ?_
    refine lv_iload_n hx hb dX6_hears_11 rfl (lv_at hl 2 rfl) ?_
    obtain ⟨r4, e5, h⟩ := bd1_s h
    refine kc_vi (rest := []) (wr := [(aB, .inr (6, [.ref aS, .ref aN, .ref aR, .ref aT, .ref aQ, .ref aK, .int B_latestFinding, .int B_latestFault])), (aN_neighbours, .inl (cI, 8, .inl N_neighbours))]) (wF := [(aB, .inr (6, [.ref aS, .ref aN, .ref aR, .ref aT, .ref aQ, .ref aK, .int B_latestFinding, .int B_latestFault])), (aN, .inr (1, [.ref aN_neighbours, .int N_posts])), (aN_neighbours, .inl (cI, 8, .inl N_neighbours))]) ⟨hx, hb, hml, hown, hts⟩ (c_X1_hasSet l dC dI cI cJ cZ cA aN aN_neighbours N_posts p1 r4 e5) (cwV 1 hts gX6_hears_X1_hasSet rfl rfl rfl (by decide +kernel) ⟨Nat.le_of_ble_eq_true rfl, Nat.le_of_ble_eq_true rfl⟩) hK hP hD hS hA [1] [0, 2] [0, 2, 1] 0 rfl rfl rfl rfl (by decide) rfl rfl rfl rfl rfl rfl hl.1 rfl (Nat.le_of_ble_eq_true rfl) dX6_hears_12 ⟨Nat.zero_le _, Nat.zero_le _⟩ (fun H locs hP hD hS => ?_)
    refine lv_if_ne (tgt := 21) hx hb dX6_hears_15 (by decide) (fun c6 => ?_) (fun c6 => ?_)
    · have h := ifn c6 h
      refine lv_aload_n hx hb dX6_hears_21 rfl (lv_at hl 0 rfl) ?_
      refine ka_get (v := .ref aN) (C := RX6) (T := TX6) (Nf := 8) (ref := "BeepNet") hx hb hts hiX6 hown hK hP 0 rfl rfl 1 (by decide) k_1 rfl rfl dX6_hears_22 ?_
      refine lv_iload_n hx hb dX6_hears_25 rfl (lv_at hl 1 rfl) ?_
      refine lv_iload_n hx hb dX6_hears_26 rfl (lv_at hl 2 rfl) ?_
      obtain ⟨r7, e8, h⟩ := bd1_s h
      refine kc_vi (rest := []) (wr := [(aB, .inr (6, [.ref aS, .ref aN, .ref aR, .ref aT, .ref aQ, .ref aK, .int B_latestFinding, .int B_latestFault]))]) (wF := [(aB, .inr (6, [.ref aS, .ref aN, .ref aR, .ref aT, .ref aQ, .ref aK, .int B_latestFinding, .int B_latestFault])), (aN, .inr (1, [.ref aN_neighbours, .int N_posts])), (aN_neighbours, .inl (cI, 8, .inl N_neighbours))]) ⟨hx, hb, hml, hown, hts⟩ (c_X1_heardBy l dC dI cI cJ cZ cA aN aN_neighbours N_posts N_neighbours p0 p1 r7 e8) (cwV 2 hts gX6_hears_X1_heardBy rfl rfl rfl (by decide +kernel) ⟨Nat.le_of_ble_eq_true rfl, Nat.le_of_ble_eq_true rfl⟩) hK hP hD hS hA [1, 2] [0] [0, 1, 2] 0 rfl rfl rfl rfl (by decide) rfl rfl rfl rfl rfl rfl hl.1 rfl (Nat.le_of_ble_eq_true rfl) dX6_hears_27 ⟨Nat.zero_le _, Nat.zero_le _⟩ (fun H locs hP hD hS => ?_)
      obtain rfl := sj1 h
      exact hret _ _ _ _ _ rfl rfl hP hD hS dX6_hears_30
    · have h := ift c6 h
      refine lv_ldc hx hb hown k_0 dX6_hears_18 ?_
      obtain rfl := sj1 h
      exact hret _ _ _ _ _ rfl rfl hP hD hS dX6_hears_20
set_option maxHeartbeats 4000000 in
set_option maxRecDepth 100000 in
theorem c_X6_spreads (l : Launch) (dC : Nat → ClassId) (dI : Nat → Nat → Nat) (cI cJ cZ cA : ClassId) (aB aS aN aR aT aQ aK aN_neighbours : Nat) (B_latestFinding : Int32) (B_latestFault : Int32) (N_posts : Int32) (N_neighbours : Nat → Int32) (p0 : Int32) (p1 : Int32) (p2 : Int32) (rr : Int32) (h : fX6_spreads N_posts N_neighbours p0 p1 p2 = some rr) : Cti l yX6_spreads wsX6_spreads rmX6_spreads (dC, dI) (tyL cI cJ cZ cA) [(aB, .inr (6, [.ref aS, .ref aN, .ref aR, .ref aT, .ref aQ, .ref aK, .int B_latestFinding, .int B_latestFault])), (aN, .inr (1, [.ref aN_neighbours, .int N_posts])), (aN_neighbours, .inl (cI, 8, .inl N_neighbours))] [(aB, .inr (6, [.ref aS, .ref aN, .ref aR, .ref aT, .ref aQ, .ref aK, .int B_latestFinding, .int B_latestFault])), (aN, .inr (1, [.ref aN_neighbours, .int N_posts])), (aN_neighbours, .inl (cI, 8, .inl N_neighbours))] [.ref aB, .int p0, .int p1, .int p2] rr := by
  refine ct_int (ty := .int) (cc := cX6_spreads) (maxL := 4) (by decide) rfl (Nat.le_of_ble_eq_true rfl) ?_
  intro p e s m args below meth c A Q ls hx hb hml hown hts hA hK hP hD hS hl hret
  have hl : lv_has ls 4 [(0, .ref aB), (1, .int p0), (2, .int p1), (3, .int p2)] := hl
  have k_0 := hts (.constant RX6 57 (-1000001)) (by decide +kernel)
  have k_1 := hts (.fieldLink RX6 19 "BeepNet" "net" "LBeepNet$Net;") (by decide +kernel)
  have hiX6 : ∀ w ∈ u_ws RX6 TX6 8, w ∈ wsX6_spreads := fun w hw => List.mem_cons_of_mem _ (List.mem_append_left _ (List.mem_append_right _ hw))
  unfold fX6_spreads at h
  refine lv_iload_n hx hb dX6_spreads_0 rfl (lv_at hl 1 rfl) ?_
  obtain ⟨r1, e2, h⟩ := bd1_s h
  refine kc_si (rest := []) (wr := [(aB, .inr (6, [.ref aS, .ref aN, .ref aR, .ref aT, .ref aQ, .ref aK, .int B_latestFinding, .int B_latestFault])), (aN, .inr (1, [.ref aN_neighbours, .int N_posts])), (aN_neighbours, .inl (cI, 8, .inl N_neighbours))]) (wF := [(aB, .inr (6, [.ref aS, .ref aN, .ref aR, .ref aT, .ref aQ, .ref aK, .int B_latestFinding, .int B_latestFault])), (aN, .inr (1, [.ref aN_neighbours, .int N_posts])), (aN_neighbours, .inl (cI, 8, .inl N_neighbours))]) ⟨hx, hb, hml, hown, hts⟩ (c_X6_isHearing l dC dI cI cJ cZ cA p0 r1 e2) (va_cwS 1 hts gX6_spreads_X6_isHearing rfl rfl rfl (by decide +kernel) ⟨Nat.le_of_ble_eq_true rfl, Nat.le_of_ble_eq_true rfl⟩) hK hP hD hS hA [] [0, 1, 2] [0, 1, 2] rfl rfl rfl rfl (by decide) rfl rfl rfl hl.1 rfl (Nat.le_of_ble_eq_true rfl) dX6_spreads_1 ⟨Nat.zero_le _, Nat.zero_le _⟩ (fun H locs hP hD hS => ?_)
  refine lv_if_eq (tgt := 29) hx hb dX6_spreads_4 (by decide) (fun c3 => ?_) (fun c3 => ?_)
  · have h := ift c3 h
    refine lv_ldc hx hb hown k_0 dX6_spreads_29 ?_
    obtain rfl := sj1 h
    exact hret _ _ _ _ _ rfl rfl hP hD hS dX6_spreads_31
  · have h := ifn c3 h
    refine lv_aload_n hx hb dX6_spreads_7 rfl (lv_at hl 0 rfl) ?_
    refine ka_get (v := .ref aN) (C := RX6) (T := TX6) (Nf := 8) (ref := "BeepNet") hx hb hts hiX6 hown hK hP 0 rfl rfl 1 (by decide) k_1 rfl rfl dX6_spreads_8 ?_
    refine lv_iload_n hx hb dX6_spreads_11 rfl (lv_at hl 2 rfl) ?_
    obtain ⟨r4, e5, h⟩ := bd1_s h
    refine kc_vi (rest := []) (wr := [(aB, .inr (6, [.ref aS, .ref aN, .ref aR, .ref aT, .ref aQ, .ref aK, .int B_latestFinding, .int B_latestFault])), (aN_neighbours, .inl (cI, 8, .inl N_neighbours))]) (wF := [(aB, .inr (6, [.ref aS, .ref aN, .ref aR, .ref aT, .ref aQ, .ref aK, .int B_latestFinding, .int B_latestFault])), (aN, .inr (1, [.ref aN_neighbours, .int N_posts])), (aN_neighbours, .inl (cI, 8, .inl N_neighbours))]) ⟨hx, hb, hml, hown, hts⟩ (c_X1_hasSet l dC dI cI cJ cZ cA aN aN_neighbours N_posts p1 r4 e5) (cwV 1 hts gX6_spreads_X1_hasSet rfl rfl rfl (by decide +kernel) ⟨Nat.le_of_ble_eq_true rfl, Nat.le_of_ble_eq_true rfl⟩) hK hP hD hS hA [1] [0, 2] [0, 2, 1] 0 rfl rfl rfl rfl (by decide) rfl rfl rfl rfl rfl rfl hl.1 rfl (Nat.le_of_ble_eq_true rfl) dX6_spreads_12 ⟨Nat.zero_le _, Nat.zero_le _⟩ (fun H locs hP hD hS => ?_)
    refine lv_if_eq (tgt := 29) hx hb dX6_spreads_15 (by decide) (fun c6 => ?_) (fun c6 => ?_)
    · have h := ift c6 h
      refine lv_ldc hx hb hown k_0 dX6_spreads_29 ?_
      obtain rfl := sj1 h
      exact hret _ _ _ _ _ rfl rfl hP hD hS dX6_spreads_31
    · have h := ifn c6 h
      refine lv_aload_n hx hb dX6_spreads_18 rfl (lv_at hl 0 rfl) ?_
      refine ka_get (v := .ref aN) (C := RX6) (T := TX6) (Nf := 8) (ref := "BeepNet") hx hb hts hiX6 hown hK hP 0 rfl rfl 1 (by decide) k_1 rfl rfl dX6_spreads_19 ?_
      refine lv_iload_n hx hb dX6_spreads_22 rfl (lv_at hl 3 rfl) ?_
      obtain ⟨r7, e8, h⟩ := bd1_s h
      refine kc_vi (rest := []) (wr := [(aB, .inr (6, [.ref aS, .ref aN, .ref aR, .ref aT, .ref aQ, .ref aK, .int B_latestFinding, .int B_latestFault])), (aN_neighbours, .inl (cI, 8, .inl N_neighbours))]) (wF := [(aB, .inr (6, [.ref aS, .ref aN, .ref aR, .ref aT, .ref aQ, .ref aK, .int B_latestFinding, .int B_latestFault])), (aN, .inr (1, [.ref aN_neighbours, .int N_posts])), (aN_neighbours, .inl (cI, 8, .inl N_neighbours))]) ⟨hx, hb, hml, hown, hts⟩ (c_X1_hasSet l dC dI cI cJ cZ cA aN aN_neighbours N_posts p2 r7 e8) (cwV 1 hts gX6_spreads_X1_hasSet rfl rfl rfl (by decide +kernel) ⟨Nat.le_of_ble_eq_true rfl, Nat.le_of_ble_eq_true rfl⟩) hK hP hD hS hA [1] [0, 2] [0, 2, 1] 0 rfl rfl rfl rfl (by decide) rfl rfl rfl rfl rfl rfl hl.1 rfl (Nat.le_of_ble_eq_true rfl) dX6_spreads_23 ⟨Nat.zero_le _, Nat.zero_le _⟩ (fun H locs hP hD hS => ?_)
      refine lv_if_ne (tgt := 32) hx hb dX6_spreads_26 (by decide) (fun c9 => ?_) (fun c9 => ?_)
      · have h := ifn c9 h
        refine lv_aload_n hx hb dX6_spreads_32 rfl (lv_at hl 0 rfl) ?_
        refine ka_get (v := .ref aN) (C := RX6) (T := TX6) (Nf := 8) (ref := "BeepNet") hx hb hts hiX6 hown hK hP 0 rfl rfl 1 (by decide) k_1 rfl rfl dX6_spreads_33 ?_
        refine lv_iload_n hx hb dX6_spreads_36 rfl (lv_at hl 1 rfl) ?_
        refine lv_iload_n hx hb dX6_spreads_37 rfl (lv_at hl 2 rfl) ?_
        refine lv_iload_n hx hb dX6_spreads_38 rfl (lv_at hl 3 rfl) ?_
        obtain ⟨r10, e11, h⟩ := bd1_s h
        refine kc_vi (rest := []) (wr := [(aB, .inr (6, [.ref aS, .ref aN, .ref aR, .ref aT, .ref aQ, .ref aK, .int B_latestFinding, .int B_latestFault]))]) (wF := [(aB, .inr (6, [.ref aS, .ref aN, .ref aR, .ref aT, .ref aQ, .ref aK, .int B_latestFinding, .int B_latestFault])), (aN, .inr (1, [.ref aN_neighbours, .int N_posts])), (aN_neighbours, .inl (cI, 8, .inl N_neighbours))]) ⟨hx, hb, hml, hown, hts⟩ (c_X1_knowAfter l dC dI cI cJ cZ cA aN aN_neighbours N_posts N_neighbours p0 p1 p2 r10 e11) (cwV 3 hts gX6_spreads_X1_knowAfter rfl rfl rfl (by decide +kernel) ⟨Nat.le_of_ble_eq_true rfl, Nat.le_of_ble_eq_true rfl⟩) hK hP hD hS hA [1, 2] [0] [0, 1, 2] 0 rfl rfl rfl rfl (by decide) rfl rfl rfl rfl rfl rfl hl.1 rfl (Nat.le_of_ble_eq_true rfl) dX6_spreads_39 ⟨Nat.zero_le _, Nat.zero_le _⟩ (fun H locs hP hD hS => ?_)
        obtain rfl := sj1 h
        exact hret _ _ _ _ _ rfl rfl hP hD hS dX6_spreads_42
      · have h := ift c9 h
        refine lv_ldc hx hb hown k_0 dX6_spreads_29 ?_
        obtain rfl := sj1 h
        exact hret _ _ _ _ _ rfl rfl hP hD hS dX6_spreads_31
set_option maxHeartbeats 4000000 in
set_option maxRecDepth 100000 in
theorem c_X6_feed (l : Launch) (dC : Nat → ClassId) (dI : Nat → Nat → Nat) (cI cJ cZ cA : ClassId) (aB aS aN aR aT aQ aK aR_tape aR_rounds : Nat) (B_latestFinding : Int32) (B_latestFault : Int32) (R_length : Int32) (R_roundsRead : Int32) (R_token : Int32) (R_start : Int32) (R_behind : Int32) (R_number : Int32) (R_tape : Nat → Int32) (p0 : Int64) (p1 : Int32) (rr : Int32) (R_length_z : Int32) (R_tape_z : Nat → Int32) (h : fX6_feed R_length R_tape p0 p1 = some (rr, R_length_z, R_tape_z)) : Cti l yX6_feed wsX6_feed rmX6_feed (dC, dI) (tyL cI cJ cZ cA) [(aB, .inr (6, [.ref aS, .ref aN, .ref aR, .ref aT, .ref aQ, .ref aK, .int B_latestFinding, .int B_latestFault])), (aR, .inr (2, [.ref aR_tape, .ref aR_rounds, .int R_length, .int R_roundsRead, .int R_token, .int R_start, .int R_behind, .int R_number])), (aR_tape, .inl (cI, 300, .inl R_tape))] [(aB, .inr (6, [.ref aS, .ref aN, .ref aR, .ref aT, .ref aQ, .ref aK, .int B_latestFinding, .int B_latestFault])), (aR, .inr (2, [.ref aR_tape, .ref aR_rounds, .int R_length_z, .int R_roundsRead, .int R_token, .int R_start, .int R_behind, .int R_number])), (aR_tape, .inl (cI, 300, .inl R_tape_z))] [.ref aB, .long p0, .int p1] rr := by
  refine ct_int (ty := .int) (cc := cX6_feed) (maxL := 4) (by decide) rfl (Nat.le_of_ble_eq_true rfl) ?_
  intro p e s m args below meth c A Q ls hx hb hml hown hts hA hK hP hD hS hl hret
  have hl : lv_has ls 4 [(0, .ref aB), (1, .long p0), (3, .int p1)] := hl
  have k_0 := hts (.constant RX6 57 (-1000001)) (by decide +kernel)
  have k_1 := hts (.fieldLink RX6 26 "BeepNet" "reader" "LBeepNet$Reader;") (by decide +kernel)
  have k_2 := hts (.constant RX6 93 (-1000003)) (by decide +kernel)
  have hiX6 : ∀ w ∈ u_ws RX6 TX6 8, w ∈ wsX6_feed := fun w hw => List.mem_cons_of_mem _ (List.mem_append_left _ (List.mem_append_right _ hw))
  unfold fX6_feed at h
  refine lv_iload_n hx hb dX6_feed_0 rfl (lv_at hl 2 rfl) ?_
  refine lv_iconst (v := 1) hx hb dX6_feed_1 (by decide) ?_
  refine lv_icmp_lt (tgt := 11) hx hb dX6_feed_2 (by decide) (fun c1 => ?_) (fun c1 => ?_)
  · have h := ift c1 h
    refine lv_ldc hx hb hown k_0 dX6_feed_11 ?_
    obtain ⟨rfl, rfl, rfl⟩ := sj3 h
    exact hret _ _ _ _ _ rfl rfl hP hD hS dX6_feed_13
  · have h := ifn c1 h
    refine lv_iload_n hx hb dX6_feed_5 rfl (lv_at hl 2 rfl) ?_
    refine lv_bipush (v := 8) hx hb dX6_feed_6 (by decide) ?_
    refine lv_icmp_le (tgt := 14) hx hb dX6_feed_8 (by decide) (fun c2 => ?_) (fun c2 => ?_)
    · have h := ift c2 h
      refine lv_aload_n hx hb dX6_feed_14 rfl (lv_at hl 0 rfl) ?_
      refine ka_get (v := .ref aR) (C := RX6) (T := TX6) (Nf := 8) (ref := "BeepNet") hx hb hts hiX6 hown hK hP 0 rfl rfl 2 (by decide) k_1 rfl rfl dX6_feed_15 ?_
      refine lv_iload_n hx hb dX6_feed_18 rfl (lv_at hl 2 rfl) ?_
      obtain ⟨r3, e4, h⟩ := bd1_s h
      refine kc_vi (rest := []) (wr := [(aB, .inr (6, [.ref aS, .ref aN, .ref aR, .ref aT, .ref aQ, .ref aK, .int B_latestFinding, .int B_latestFault])), (aR_tape, .inl (cI, 300, .inl R_tape))]) (wF := [(aB, .inr (6, [.ref aS, .ref aN, .ref aR, .ref aT, .ref aQ, .ref aK, .int B_latestFinding, .int B_latestFault])), (aR, .inr (2, [.ref aR_tape, .ref aR_rounds, .int R_length, .int R_roundsRead, .int R_token, .int R_start, .int R_behind, .int R_number])), (aR_tape, .inl (cI, 300, .inl R_tape))]) ⟨hx, hb, hml, hown, hts⟩ (c_X2_hasRoom l dC dI cI cJ cZ cA aR aR_tape aR_rounds R_length R_roundsRead R_token R_start R_behind R_number p1 r3 e4) (cwV 1 hts gX6_feed_X2_hasRoom rfl rfl rfl (by decide +kernel) ⟨Nat.le_of_ble_eq_true rfl, Nat.le_of_ble_eq_true rfl⟩) hK hP hD hS hA [1] [0, 2] [0, 2, 1] 0 rfl rfl rfl rfl (by decide) rfl rfl rfl rfl rfl rfl hl.1 rfl (Nat.le_of_ble_eq_true rfl) dX6_feed_19 ⟨Nat.zero_le _, Nat.zero_le _⟩ (fun H locs hP hD hS => ?_)
      refine lv_if_eq (tgt := 37) hx hb dX6_feed_22 (by decide) (fun c5 => ?_) (fun c5 => ?_)
      · have h := ift c5 h
        refine lv_ldc hx hb hown k_2 dX6_feed_37 ?_
        obtain ⟨rfl, rfl, rfl⟩ := sj3 h
        exact hret _ _ _ _ _ rfl rfl hP hD hS dX6_feed_39
      · have h := ifn c5 h
        refine lv_aload_n hx hb dX6_feed_25 rfl (lv_at hl 0 rfl) ?_
        refine ka_get (v := .ref aR) (C := RX6) (T := TX6) (Nf := 8) (ref := "BeepNet") hx hb hts hiX6 hown hK hP 0 rfl rfl 2 (by decide) k_1 rfl rfl dX6_feed_26 ?_
        refine lv_lload_n hx hb dX6_feed_29 rfl (lv_at hl 1 rfl) ?_
        refine lv_iload_n hx hb dX6_feed_30 rfl (lv_at hl 2 rfl) ?_
        obtain ⟨r6, R_length_7, R_tape_8, e9, h⟩ := bd3_s h
        refine kc_vi (rest := []) (wr := [(aB, .inr (6, [.ref aS, .ref aN, .ref aR, .ref aT, .ref aQ, .ref aK, .int B_latestFinding, .int B_latestFault]))]) (wF := [(aB, .inr (6, [.ref aS, .ref aN, .ref aR, .ref aT, .ref aQ, .ref aK, .int B_latestFinding, .int B_latestFault])), (aR, .inr (2, [.ref aR_tape, .ref aR_rounds, .int R_length_7, .int R_roundsRead, .int R_token, .int R_start, .int R_behind, .int R_number])), (aR_tape, .inl (cI, 300, .inl R_tape_8))]) ⟨hx, hb, hml, hown, hts⟩ (c_X2_take l dC dI cI cJ cZ cA aR aR_tape aR_rounds R_length R_roundsRead R_token R_start R_behind R_number R_tape p0 p1 r6 R_length_7 R_tape_8 e9) (cwV 2 hts gX6_feed_X2_take rfl rfl rfl (by decide +kernel) ⟨Nat.le_of_ble_eq_true rfl, Nat.le_of_ble_eq_true rfl⟩) hK hP hD hS hA [1, 2] [0] [0, 1, 2] 0 rfl rfl rfl rfl (by decide) rfl rfl rfl rfl rfl rfl hl.1 rfl (Nat.le_of_ble_eq_true rfl) dX6_feed_31 ⟨Nat.zero_le _, Nat.zero_le _⟩ (fun H locs hP hD hS => ?_)
        refine lv_goto (tgt := 39) hx hb dX6_feed_34 (by decide) ?_
        obtain ⟨rfl, rfl, rfl⟩ := sj3 h
        exact hret _ _ _ _ _ rfl rfl hP hD hS dX6_feed_39
    · have h := ifn c2 h
      refine lv_ldc hx hb hown k_0 dX6_feed_11 ?_
      obtain ⟨rfl, rfl, rfl⟩ := sj3 h
      exact hret _ _ _ _ _ rfl rfl hP hD hS dX6_feed_13
set_option maxHeartbeats 4000000 in
set_option maxRecDepth 100000 in
theorem c_X6_schedule (l : Launch) (dC : Nat → ClassId) (dI : Nat → Nat → Nat) (cI cJ cZ cA : ClassId) (sk sv : Nat → Nat) (aB aS aN aR aT aQ aK aN_neighbours aR_tape aR_rounds aT_rounds : Nat) (B_latestFinding : Int32) (B_latestFault : Int32) (N_posts : Int32) (R_length : Int32) (R_roundsRead : Int32) (R_token : Int32) (R_start : Int32) (R_behind : Int32) (R_number : Int32) (R_tape : Nat → Int32) (R_rounds : Nat → Int32) (T_size : Int32) (T_rounds : Nat → Int32) (rr : Int32) (B_latestFault_z : Int32) (R_length_z : Int32) (R_roundsRead_z : Int32) (R_token_z : Int32) (R_start_z : Int32) (R_behind_z : Int32) (R_number_z : Int32) (R_rounds_z : Nat → Int32) (T_size_z : Int32) (T_rounds_z : Nat → Int32) (h : fX6_schedule B_latestFault N_posts R_length R_roundsRead R_token R_start R_behind R_number R_tape R_rounds T_size T_rounds = some (rr, B_latestFault_z, R_length_z, R_roundsRead_z, R_token_z, R_start_z, R_behind_z, R_number_z, R_rounds_z, T_size_z, T_rounds_z)) : CtiX l yX6_schedule wsX6_schedule rmX6_schedule (dC, dI) (tyL cI cJ cZ cA) sk sv [(aB, .inr (6, [.ref aS, .ref aN, .ref aR, .ref aT, .ref aQ, .ref aK, .int B_latestFinding, .int B_latestFault])), (aN, .inr (1, [.ref aN_neighbours, .int N_posts])), (aR, .inr (2, [.ref aR_tape, .ref aR_rounds, .int R_length, .int R_roundsRead, .int R_token, .int R_start, .int R_behind, .int R_number])), (aR_tape, .inl (cI, 300, .inl R_tape)), (aR_rounds, .inl (cI, 20, .inl R_rounds)), (aT, .inr (5, [.ref aT_rounds, .int T_size])), (aT_rounds, .inl (cI, 20, .inl T_rounds))] [(aB, .inr (6, [.ref aS, .ref aN, .ref aR, .ref aT, .ref aQ, .ref aK, .int B_latestFinding, .int B_latestFault_z])), (aN, .inr (1, [.ref aN_neighbours, .int N_posts])), (aR, .inr (2, [.ref aR_tape, .ref aR_rounds, .int R_length_z, .int R_roundsRead_z, .int R_token_z, .int R_start_z, .int R_behind_z, .int R_number_z])), (aR_tape, .inl (cI, 300, .inl R_tape)), (aR_rounds, .inl (cI, 20, .inl R_rounds_z)), (aT, .inr (5, [.ref aT_rounds, .int T_size_z])), (aT_rounds, .inl (cI, 20, .inl T_rounds_z))] [.ref aB] rr := by
  refine ct_intX (ty := .int) (cc := cX6_schedule) (maxL := 2) (by decide) rfl (Nat.le_of_ble_eq_true rfl) ?_
  intro p e s m args below meth c A Q ls hx hb hml hown hts hA hK hP hD hS hl hret hX
  have hl : lv_has ls 2 [(0, .ref aB)] := hl
  have k_0 := hts (.fieldLink RX6 26 "BeepNet" "reader" "LBeepNet$Reader;") (by decide +kernel)
  have k_1 := hts (.fieldLink RX6 19 "BeepNet" "net" "LBeepNet$Net;") (by decide +kernel)
  have k_2 := hts (.fieldLink RX6 33 "BeepNet" "timetable" "LBeepNet$Timetable;") (by decide +kernel)
  have k_3 := hts (.fieldLink RX6 152 "BeepNet" "latestFault" "I") (by decide +kernel)
  have k_4 := hts (.constant RX6 155 (-1000100)) (by decide +kernel)
  have hiX6 : ∀ w ∈ u_ws RX6 TX6 8, w ∈ wsX6_schedule := fun w hw => List.mem_cons_of_mem _ (List.mem_append_left _ (List.mem_append_left _ (List.mem_append_left _ (List.mem_append_right _ hw))))
  unfold fX6_schedule at h
  refine lv_aload_n hx hb dX6_schedule_0 rfl (lv_at hl 0 rfl) ?_
  refine ka_get (v := .ref aR) (C := RX6) (T := TX6) (Nf := 8) (ref := "BeepNet") hx hb hts hiX6 hown hK hP 0 rfl rfl 2 (by decide) k_0 rfl rfl dX6_schedule_1 ?_
  refine lv_aload_n hx hb dX6_schedule_4 rfl (lv_at hl 0 rfl) ?_
  refine ka_get (v := .ref aN) (C := RX6) (T := TX6) (Nf := 8) (ref := "BeepNet") hx hb hts hiX6 hown hK hP 0 rfl rfl 1 (by decide) k_1 rfl rfl dX6_schedule_5 ?_
  obtain ⟨r1, e2, h⟩ := bd1_s h
  refine kc_vi (rest := [.ref aR]) (wr := [(aB, .inr (6, [.ref aS, .ref aN, .ref aR, .ref aT, .ref aQ, .ref aK, .int B_latestFinding, .int B_latestFault])), (aR, .inr (2, [.ref aR_tape, .ref aR_rounds, .int R_length, .int R_roundsRead, .int R_token, .int R_start, .int R_behind, .int R_number])), (aR_tape, .inl (cI, 300, .inl R_tape)), (aR_rounds, .inl (cI, 20, .inl R_rounds)), (aT, .inr (5, [.ref aT_rounds, .int T_size])), (aT_rounds, .inl (cI, 20, .inl T_rounds))]) (wF := [(aB, .inr (6, [.ref aS, .ref aN, .ref aR, .ref aT, .ref aQ, .ref aK, .int B_latestFinding, .int B_latestFault])), (aN, .inr (1, [.ref aN_neighbours, .int N_posts])), (aR, .inr (2, [.ref aR_tape, .ref aR_rounds, .int R_length, .int R_roundsRead, .int R_token, .int R_start, .int R_behind, .int R_number])), (aR_tape, .inl (cI, 300, .inl R_tape)), (aR_rounds, .inl (cI, 20, .inl R_rounds)), (aT, .inr (5, [.ref aT_rounds, .int T_size])), (aT_rounds, .inl (cI, 20, .inl T_rounds))]) ⟨hx, hb, hml, hown, hts⟩ (c_X1_size l dC dI cI cJ cZ cA aN aN_neighbours N_posts r1 e2) (cwV 0 hts gX6_schedule_X1_size rfl rfl rfl (by decide +kernel) ⟨Nat.le_of_ble_eq_true rfl, Nat.le_of_ble_eq_true rfl⟩) hK hP hD hS hA [1] [0, 2, 3, 4, 5, 6] [0, 6, 1, 2, 3, 4, 5] 0 rfl rfl rfl rfl (by decide) rfl rfl rfl rfl rfl rfl hl.1 rfl (Nat.le_of_ble_eq_true rfl) dX6_schedule_8 ⟨Nat.zero_le _, Nat.zero_le _⟩ (fun H locs hP hD hS => ?_)
  obtain ⟨r3, R_length_4, R_roundsRead_5, R_token_6, R_start_7, R_behind_8, R_number_9, R_rounds_10, e11, h⟩ := bd8_s h
  refine kc_viX hX (rest := []) (wr := [(aB, .inr (6, [.ref aS, .ref aN, .ref aR, .ref aT, .ref aQ, .ref aK, .int B_latestFinding, .int B_latestFault])), (aN, .inr (1, [.ref aN_neighbours, .int N_posts])), (aT, .inr (5, [.ref aT_rounds, .int T_size])), (aT_rounds, .inl (cI, 20, .inl T_rounds))]) (wF := [(aB, .inr (6, [.ref aS, .ref aN, .ref aR, .ref aT, .ref aQ, .ref aK, .int B_latestFinding, .int B_latestFault])), (aN, .inr (1, [.ref aN_neighbours, .int N_posts])), (aR, .inr (2, [.ref aR_tape, .ref aR_rounds, .int R_length_4, .int R_roundsRead_5, .int R_token_6, .int R_start_7, .int R_behind_8, .int R_number_9])), (aR_tape, .inl (cI, 300, .inl R_tape)), (aR_rounds, .inl (cI, 20, .inl R_rounds_10)), (aT, .inr (5, [.ref aT_rounds, .int T_size])), (aT_rounds, .inl (cI, 20, .inl T_rounds))]) ⟨hx, hb, hml, hown, hts⟩ (c_X2_read l dC dI cI cJ cZ cA sk sv aR aR_tape aR_rounds R_length R_roundsRead R_token R_start R_behind R_number R_tape R_rounds r1 r3 R_length_4 R_roundsRead_5 R_token_6 R_start_7 R_behind_8 R_number_9 R_rounds_10 e11) (cwV 1 hts gX6_schedule_X2_read rfl rfl rfl (by decide +kernel) ⟨Nat.le_of_ble_eq_true rfl, Nat.le_of_ble_eq_true rfl⟩) hK hP hD hS hA [2, 3, 4] [0, 1, 5, 6] [0, 1, 4, 5, 6, 2, 3] 0 rfl rfl rfl rfl (by decide) rfl rfl rfl rfl rfl rfl hl.1 rfl (Nat.le_of_ble_eq_true rfl) dX6_schedule_11 ⟨Nat.zero_le _, Nat.zero_le _⟩ (fun H locs hP hD hS => ?_)
  refine lv_istore_n (lv' := [(1, .int r3), (0, .ref aB)]) hx hb dX6_schedule_14 rfl hl (by decide) rfl (fun ls hl => ?_)
  refine lv_iload_n hx hb dX6_schedule_15 rfl (lv_at hl 0 rfl) ?_
  refine lv_if_eq (tgt := 35) hx hb dX6_schedule_16 (by decide) (fun c12 => ?_) (fun c12 => ?_)
  · have h := ift c12 h
    refine lv_aload_n hx hb dX6_schedule_35 rfl (lv_at hl 1 rfl) ?_
    refine ka_get (v := .ref aT) (C := RX6) (T := TX6) (Nf := 8) (ref := "BeepNet") hx hb hts hiX6 hown hK hP 0 rfl rfl 3 (by decide) k_2 rfl rfl dX6_schedule_36 ?_
    refine lv_aload_n hx hb dX6_schedule_39 rfl (lv_at hl 1 rfl) ?_
    refine ka_get (v := .ref aR) (C := RX6) (T := TX6) (Nf := 8) (ref := "BeepNet") hx hb hts hiX6 hown hK hP 0 rfl rfl 2 (by decide) k_0 rfl rfl dX6_schedule_40 ?_
    obtain ⟨T_size_13, T_rounds_14, e15, h⟩ := bd2_s h
    refine kc_vv (rest := []) (wr := [(aB, .inr (6, [.ref aS, .ref aN, .ref aR, .ref aT, .ref aQ, .ref aK, .int B_latestFinding, .int B_latestFault])), (aN, .inr (1, [.ref aN_neighbours, .int N_posts])), (aR_tape, .inl (cI, 300, .inl R_tape))]) (wF := [(aB, .inr (6, [.ref aS, .ref aN, .ref aR, .ref aT, .ref aQ, .ref aK, .int B_latestFinding, .int B_latestFault])), (aN, .inr (1, [.ref aN_neighbours, .int N_posts])), (aR, .inr (2, [.ref aR_tape, .ref aR_rounds, .int R_length_4, .int R_roundsRead_5, .int R_token_6, .int R_start_7, .int R_behind_8, .int R_number_9])), (aR_tape, .inl (cI, 300, .inl R_tape)), (aR_rounds, .inl (cI, 20, .inl R_rounds_10)), (aT, .inr (5, [.ref aT_rounds, .int T_size_13])), (aT_rounds, .inl (cI, 20, .inl T_rounds_14))]) ⟨hx, hb, hml, hown, hts⟩ (c_X5_become l dC dI cI cJ cZ cA aR aR_tape aR_rounds aT aT_rounds R_length_4 R_roundsRead_5 R_token_6 R_start_7 R_behind_8 R_number_9 R_rounds_10 T_size T_rounds T_size_13 T_rounds_14 e15) (cwV 1 hts gX6_schedule_X5_become rfl rfl rfl (by decide +kernel) ⟨Nat.le_of_ble_eq_true rfl, Nat.le_of_ble_eq_true rfl⟩) hK hP hD hS hA [2, 4, 5, 6] [0, 1, 3] [0, 1, 3, 2, 4, 5, 6] 2 rfl rfl rfl rfl (by decide) rfl rfl rfl rfl rfl rfl hl.1 rfl (Nat.le_of_ble_eq_true rfl) dX6_schedule_43 ⟨Nat.zero_le _, Nat.zero_le _⟩ (fun H locs hP hD hS => ?_)
    refine lv_aload_n hx hb dX6_schedule_46 rfl (lv_at hl 1 rfl) ?_
    refine ka_get (v := .ref aT) (C := RX6) (T := TX6) (Nf := 8) (ref := "BeepNet") hx hb hts hiX6 hown hK hP 0 rfl rfl 3 (by decide) k_2 rfl rfl dX6_schedule_47 ?_
    obtain ⟨r16, e17, h⟩ := bd1_s h
    refine kc_vi (rest := []) (wr := [(aB, .inr (6, [.ref aS, .ref aN, .ref aR, .ref aT, .ref aQ, .ref aK, .int B_latestFinding, .int B_latestFault])), (aN, .inr (1, [.ref aN_neighbours, .int N_posts])), (aR, .inr (2, [.ref aR_tape, .ref aR_rounds, .int R_length_4, .int R_roundsRead_5, .int R_token_6, .int R_start_7, .int R_behind_8, .int R_number_9])), (aR_tape, .inl (cI, 300, .inl R_tape)), (aR_rounds, .inl (cI, 20, .inl R_rounds_10)), (aT_rounds, .inl (cI, 20, .inl T_rounds_14))]) (wF := [(aB, .inr (6, [.ref aS, .ref aN, .ref aR, .ref aT, .ref aQ, .ref aK, .int B_latestFinding, .int B_latestFault])), (aN, .inr (1, [.ref aN_neighbours, .int N_posts])), (aR, .inr (2, [.ref aR_tape, .ref aR_rounds, .int R_length_4, .int R_roundsRead_5, .int R_token_6, .int R_start_7, .int R_behind_8, .int R_number_9])), (aR_tape, .inl (cI, 300, .inl R_tape)), (aR_rounds, .inl (cI, 20, .inl R_rounds_10)), (aT, .inr (5, [.ref aT_rounds, .int T_size_13])), (aT_rounds, .inl (cI, 20, .inl T_rounds_14))]) ⟨hx, hb, hml, hown, hts⟩ (c_X5_size l dC dI cI cJ cZ cA aT aT_rounds T_size_13 r16 e17) (cwV 0 hts gX6_schedule_X5_size rfl rfl rfl (by decide +kernel) ⟨Nat.le_of_ble_eq_true rfl, Nat.le_of_ble_eq_true rfl⟩) hK hP hD hS hA [5] [0, 1, 2, 3, 4, 6] [0, 1, 2, 3, 4, 6, 5] 0 rfl rfl rfl rfl (by decide) rfl rfl rfl rfl rfl rfl hl.1 rfl (Nat.le_of_ble_eq_true rfl) dX6_schedule_50 ⟨Nat.zero_le _, Nat.zero_le _⟩ (fun H locs hP hD hS => ?_)
    obtain ⟨rfl, rfl, rfl, rfl, rfl, rfl, rfl, rfl, rfl, rfl, rfl⟩ := sj11 h
    exact hret _ _ _ _ _ rfl rfl hP hD hS dX6_schedule_53
  · have h := ifn c12 h
    refine lv_aload_n hx hb dX6_schedule_19 rfl (lv_at hl 1 rfl) ?_
    refine lv_iload_n hx hb dX6_schedule_20 rfl (lv_at hl 0 rfl) ?_
    refine ka_put (w1 := [(aB, .inr (6, [.ref aS, .ref aN, .ref aR, .ref aT, .ref aQ, .ref aK, .int B_latestFinding, .int r3])), (aN, .inr (1, [.ref aN_neighbours, .int N_posts])), (aR, .inr (2, [.ref aR_tape, .ref aR_rounds, .int R_length_4, .int R_roundsRead_5, .int R_token_6, .int R_start_7, .int R_behind_8, .int R_number_9])), (aR_tape, .inl (cI, 300, .inl R_tape)), (aR_rounds, .inl (cI, 20, .inl R_rounds_10)), (aT, .inr (5, [.ref aT_rounds, .int T_size])), (aT_rounds, .inl (cI, 20, .inl T_rounds))]) (C := RX6) (T := TX6) (Nf := 8) (ref := "BeepNet") hx hb hts hiX6 tyX6 tyX6_ok nmX6 hown hK hP hD hS 0 rfl rfl 7 (by decide) k_3 rfl rfl rfl (Nat.le_of_ble_eq_true rfl) dX6_schedule_21 rfl (fun H locs hP hD hS => ?_)
    refine lv_ldc hx hb hown k_4 dX6_schedule_24 ?_
    refine lv_aload_n hx hb dX6_schedule_26 rfl (lv_at hl 1 rfl) ?_
    refine ka_get (v := .ref aR) (C := RX6) (T := TX6) (Nf := 8) (ref := "BeepNet") hx hb hts hiX6 hown hK hP 0 rfl rfl 2 (by decide) k_0 rfl rfl dX6_schedule_27 ?_
    obtain ⟨r18, e19, h⟩ := bd1_s h
    refine kc_vi (rest := [.int (-1000100)]) (wr := [(aB, .inr (6, [.ref aS, .ref aN, .ref aR, .ref aT, .ref aQ, .ref aK, .int B_latestFinding, .int r3])), (aN, .inr (1, [.ref aN_neighbours, .int N_posts])), (aR_tape, .inl (cI, 300, .inl R_tape)), (aR_rounds, .inl (cI, 20, .inl R_rounds_10)), (aT, .inr (5, [.ref aT_rounds, .int T_size])), (aT_rounds, .inl (cI, 20, .inl T_rounds))]) (wF := [(aB, .inr (6, [.ref aS, .ref aN, .ref aR, .ref aT, .ref aQ, .ref aK, .int B_latestFinding, .int r3])), (aN, .inr (1, [.ref aN_neighbours, .int N_posts])), (aR, .inr (2, [.ref aR_tape, .ref aR_rounds, .int R_length_4, .int R_roundsRead_5, .int R_token_6, .int R_start_7, .int R_behind_8, .int R_number_9])), (aR_tape, .inl (cI, 300, .inl R_tape)), (aR_rounds, .inl (cI, 20, .inl R_rounds_10)), (aT, .inr (5, [.ref aT_rounds, .int T_size])), (aT_rounds, .inl (cI, 20, .inl T_rounds))]) ⟨hx, hb, hml, hown, hts⟩ (c_X2_tokenPlace l dC dI cI cJ cZ cA aR aR_tape aR_rounds R_length_4 R_roundsRead_5 R_token_6 R_start_7 R_behind_8 R_number_9 r18 e19) (cwV 0 hts gX6_schedule_X2_tokenPlace rfl rfl rfl (by decide +kernel) ⟨Nat.le_of_ble_eq_true rfl, Nat.le_of_ble_eq_true rfl⟩) hK hP hD hS hA [2] [0, 1, 3, 4, 5, 6] [0, 1, 6, 2, 3, 4, 5] 0 rfl rfl rfl rfl (by decide) rfl rfl rfl rfl rfl rfl hl.1 rfl (Nat.le_of_ble_eq_true rfl) dX6_schedule_30 ⟨Nat.zero_le _, Nat.zero_le _⟩ (fun H locs hP hD hS => ?_)
    refine lv_isub hx hb dX6_schedule_33 ?_
    obtain ⟨rfl, rfl, rfl, rfl, rfl, rfl, rfl, rfl, rfl, rfl, rfl⟩ := sj11 h
    exact hret _ _ _ _ _ rfl rfl hP hD hS dX6_schedule_34
set_option maxHeartbeats 4000000 in
set_option maxRecDepth 100000 in
theorem c_X6_fault (l : Launch) (dC : Nat → ClassId) (dI : Nat → Nat → Nat) (cI cJ cZ cA : ClassId) (aB aS aN aR aT aQ aK : Nat) (B_latestFinding : Int32) (B_latestFault : Int32) (rr : Int32) (h : fX6_fault B_latestFault = some rr) : Cti l yX6_fault wsX6_fault rmX6_fault (dC, dI) (tyL cI cJ cZ cA) [(aB, .inr (6, [.ref aS, .ref aN, .ref aR, .ref aT, .ref aQ, .ref aK, .int B_latestFinding, .int B_latestFault]))] [(aB, .inr (6, [.ref aS, .ref aN, .ref aR, .ref aT, .ref aQ, .ref aK, .int B_latestFinding, .int B_latestFault]))] [.ref aB] rr := by
  refine ct_int (ty := .int) (cc := cX6_fault) (maxL := 1) (by decide) rfl (Nat.le_of_ble_eq_true rfl) ?_
  intro p e s m args below meth c A Q ls hx hb hml hown hts hA hK hP hD hS hl hret
  have hl : lv_has ls 1 [(0, .ref aB)] := hl
  have k_0 := hts (.fieldLink RX6 152 "BeepNet" "latestFault" "I") (by decide +kernel)
  have hiX6 : ∀ w ∈ u_ws RX6 TX6 8, w ∈ wsX6_fault := fun w hw => List.mem_cons_of_mem _ (List.mem_append_right _ hw)
  unfold fX6_fault at h
  refine lv_aload_n hx hb dX6_fault_0 rfl (lv_at hl 0 rfl) ?_
  refine ka_get (v := .int B_latestFault) (C := RX6) (T := TX6) (Nf := 8) (ref := "BeepNet") hx hb hts hiX6 hown hK hP 0 rfl rfl 7 (by decide) k_0 rfl rfl dX6_fault_1 ?_
  obtain rfl := sj1 h
  exact hret _ _ _ _ _ rfl rfl hP hD hS dX6_fault_4
set_option maxHeartbeats 4000000 in
set_option maxRecDepth 100000 in
theorem c_X6_round (l : Launch) (dC : Nat → ClassId) (dI : Nat → Nat → Nat) (cI cJ cZ cA : ClassId) (aB aS aN aR aT aQ aK aN_neighbours aT_rounds : Nat) (B_latestFinding : Int32) (B_latestFault : Int32) (N_posts : Int32) (T_size : Int32) (T_rounds : Nat → Int32) (p0 : Int32) (rr : Int32) (h : fX6_round N_posts T_size T_rounds p0 = some rr) : Cti l yX6_round wsX6_round rmX6_round (dC, dI) (tyL cI cJ cZ cA) [(aB, .inr (6, [.ref aS, .ref aN, .ref aR, .ref aT, .ref aQ, .ref aK, .int B_latestFinding, .int B_latestFault])), (aN, .inr (1, [.ref aN_neighbours, .int N_posts])), (aT, .inr (5, [.ref aT_rounds, .int T_size])), (aT_rounds, .inl (cI, 20, .inl T_rounds))] [(aB, .inr (6, [.ref aS, .ref aN, .ref aR, .ref aT, .ref aQ, .ref aK, .int B_latestFinding, .int B_latestFault])), (aN, .inr (1, [.ref aN_neighbours, .int N_posts])), (aT, .inr (5, [.ref aT_rounds, .int T_size])), (aT_rounds, .inl (cI, 20, .inl T_rounds))] [.ref aB, .int p0] rr := by
  refine ct_int (ty := .int) (cc := cX6_round) (maxL := 2) (by decide) rfl (Nat.le_of_ble_eq_true rfl) ?_
  intro p e s m args below meth c A Q ls hx hb hml hown hts hA hK hP hD hS hl hret
  have hl : lv_has ls 2 [(0, .ref aB), (1, .int p0)] := hl
  have k_0 := hts (.fieldLink RX6 33 "BeepNet" "timetable" "LBeepNet$Timetable;") (by decide +kernel)
  have k_1 := hts (.constant RX6 173 (-1000000)) (by decide +kernel)
  have k_2 := hts (.fieldLink RX6 19 "BeepNet" "net" "LBeepNet$Net;") (by decide +kernel)
  have hiX6 : ∀ w ∈ u_ws RX6 TX6 8, w ∈ wsX6_round := fun w hw => List.mem_cons_of_mem _ (List.mem_append_left _ (List.mem_append_left _ (List.mem_append_right _ hw)))
  unfold fX6_round at h
  refine lv_aload_n hx hb dX6_round_0 rfl (lv_at hl 0 rfl) ?_
  refine ka_get (v := .ref aT) (C := RX6) (T := TX6) (Nf := 8) (ref := "BeepNet") hx hb hts hiX6 hown hK hP 0 rfl rfl 3 (by decide) k_0 rfl rfl dX6_round_1 ?_
  refine lv_iload_n hx hb dX6_round_4 rfl (lv_at hl 1 rfl) ?_
  obtain ⟨r1, e2, h⟩ := bd1_s h
  refine kc_vi (rest := []) (wr := [(aB, .inr (6, [.ref aS, .ref aN, .ref aR, .ref aT, .ref aQ, .ref aK, .int B_latestFinding, .int B_latestFault])), (aN, .inr (1, [.ref aN_neighbours, .int N_posts])), (aT_rounds, .inl (cI, 20, .inl T_rounds))]) (wF := [(aB, .inr (6, [.ref aS, .ref aN, .ref aR, .ref aT, .ref aQ, .ref aK, .int B_latestFinding, .int B_latestFault])), (aN, .inr (1, [.ref aN_neighbours, .int N_posts])), (aT, .inr (5, [.ref aT_rounds, .int T_size])), (aT_rounds, .inl (cI, 20, .inl T_rounds))]) ⟨hx, hb, hml, hown, hts⟩ (c_X5_hasRound l dC dI cI cJ cZ cA aT aT_rounds T_size p0 r1 e2) (cwV 1 hts gX6_round_X5_hasRound rfl rfl rfl (by decide +kernel) ⟨Nat.le_of_ble_eq_true rfl, Nat.le_of_ble_eq_true rfl⟩) hK hP hD hS hA [2] [0, 1, 3] [0, 1, 3, 2] 0 rfl rfl rfl rfl (by decide) rfl rfl rfl rfl rfl rfl hl.1 rfl (Nat.le_of_ble_eq_true rfl) dX6_round_5 ⟨Nat.zero_le _, Nat.zero_le _⟩ (fun H locs hP hD hS => ?_)
  refine lv_if_eq (tgt := 29) hx hb dX6_round_8 (by decide) (fun c3 => ?_) (fun c3 => ?_)
  · have h := ift c3 h
    refine lv_ldc hx hb hown k_1 dX6_round_29 ?_
    obtain rfl := sj1 h
    exact hret _ _ _ _ _ rfl rfl hP hD hS dX6_round_31
  · have h := ifn c3 h
    refine lv_aload_n hx hb dX6_round_11 rfl (lv_at hl 0 rfl) ?_
    refine ka_get (v := .ref aT) (C := RX6) (T := TX6) (Nf := 8) (ref := "BeepNet") hx hb hts hiX6 hown hK hP 0 rfl rfl 3 (by decide) k_0 rfl rfl dX6_round_12 ?_
    refine lv_iload_n hx hb dX6_round_15 rfl (lv_at hl 1 rfl) ?_
    refine lv_aload_n hx hb dX6_round_16 rfl (lv_at hl 0 rfl) ?_
    refine ka_get (v := .ref aN) (C := RX6) (T := TX6) (Nf := 8) (ref := "BeepNet") hx hb hts hiX6 hown hK hP 0 rfl rfl 1 (by decide) k_2 rfl rfl dX6_round_17 ?_
    obtain ⟨r4, e5, h⟩ := bd1_s h
    refine kc_vi (rest := [.int p0, .ref aT]) (wr := [(aB, .inr (6, [.ref aS, .ref aN, .ref aR, .ref aT, .ref aQ, .ref aK, .int B_latestFinding, .int B_latestFault])), (aT, .inr (5, [.ref aT_rounds, .int T_size])), (aT_rounds, .inl (cI, 20, .inl T_rounds))]) (wF := [(aB, .inr (6, [.ref aS, .ref aN, .ref aR, .ref aT, .ref aQ, .ref aK, .int B_latestFinding, .int B_latestFault])), (aN, .inr (1, [.ref aN_neighbours, .int N_posts])), (aT, .inr (5, [.ref aT_rounds, .int T_size])), (aT_rounds, .inl (cI, 20, .inl T_rounds))]) ⟨hx, hb, hml, hown, hts⟩ (c_X1_allPosts l dC dI cI cJ cZ cA aN aN_neighbours N_posts r4 e5) (cwV 0 hts gX6_round_X1_allPosts rfl rfl rfl (by decide +kernel) ⟨Nat.le_of_ble_eq_true rfl, Nat.le_of_ble_eq_true rfl⟩) hK hP hD hS hA [1] [0, 2, 3] [0, 3, 1, 2] 0 rfl rfl rfl rfl (by decide) rfl rfl rfl rfl rfl rfl hl.1 rfl (Nat.le_of_ble_eq_true rfl) dX6_round_20 ⟨Nat.zero_le _, Nat.zero_le _⟩ (fun H locs hP hD hS => ?_)
    obtain ⟨r6, e7, h⟩ := bd1_s h
    refine kc_vi (rest := []) (wr := [(aB, .inr (6, [.ref aS, .ref aN, .ref aR, .ref aT, .ref aQ, .ref aK, .int B_latestFinding, .int B_latestFault])), (aN, .inr (1, [.ref aN_neighbours, .int N_posts]))]) (wF := [(aB, .inr (6, [.ref aS, .ref aN, .ref aR, .ref aT, .ref aQ, .ref aK, .int B_latestFinding, .int B_latestFault])), (aN, .inr (1, [.ref aN_neighbours, .int N_posts])), (aT, .inr (5, [.ref aT_rounds, .int T_size])), (aT_rounds, .inl (cI, 20, .inl T_rounds))]) ⟨hx, hb, hml, hown, hts⟩ (c_X5_soundsIn l dC dI cI cJ cZ cA aT aT_rounds T_size T_rounds p0 r4 r6 e7) (cwV 2 hts gX6_round_X5_soundsIn rfl rfl rfl (by decide +kernel) ⟨Nat.le_of_ble_eq_true rfl, Nat.le_of_ble_eq_true rfl⟩) hK hP hD hS hA [2, 3] [0, 1] [0, 1, 2, 3] 0 rfl rfl rfl rfl (by decide) rfl rfl rfl rfl rfl rfl hl.1 rfl (Nat.le_of_ble_eq_true rfl) dX6_round_23 ⟨Nat.zero_le _, Nat.zero_le _⟩ (fun H locs hP hD hS => ?_)
    refine lv_goto (tgt := 31) hx hb dX6_round_26 (by decide) ?_
    obtain rfl := sj1 h
    exact hret _ _ _ _ _ rfl rfl hP hD hS dX6_round_31
set_option maxHeartbeats 4000000 in
set_option maxRecDepth 100000 in
theorem c_X6_run (l : Launch) (dC : Nat → ClassId) (dI : Nat → Nat → Nat) (cI cJ cZ cA : ClassId) (aB aS aN aR aT aQ aK aN_neighbours aT_rounds : Nat) (B_latestFinding : Int32) (B_latestFault : Int32) (N_posts : Int32) (N_neighbours : Nat → Int32) (T_size : Int32) (T_rounds : Nat → Int32) (p0 : Int32) (p1 : Int32) (p2 : Int32) (rr : Int32) (h : fX6_run N_posts N_neighbours T_size T_rounds p0 p1 p2 = some rr) : Cti l yX6_run wsX6_run rmX6_run (dC, dI) (tyL cI cJ cZ cA) [(aB, .inr (6, [.ref aS, .ref aN, .ref aR, .ref aT, .ref aQ, .ref aK, .int B_latestFinding, .int B_latestFault])), (aN, .inr (1, [.ref aN_neighbours, .int N_posts])), (aN_neighbours, .inl (cI, 8, .inl N_neighbours)), (aT, .inr (5, [.ref aT_rounds, .int T_size])), (aT_rounds, .inl (cI, 20, .inl T_rounds))] [(aB, .inr (6, [.ref aS, .ref aN, .ref aR, .ref aT, .ref aQ, .ref aK, .int B_latestFinding, .int B_latestFault])), (aN, .inr (1, [.ref aN_neighbours, .int N_posts])), (aN_neighbours, .inl (cI, 8, .inl N_neighbours)), (aT, .inr (5, [.ref aT_rounds, .int T_size])), (aT_rounds, .inl (cI, 20, .inl T_rounds))] [.ref aB, .int p0, .int p1, .int p2] rr := by
  refine ct_int (ty := .int) (cc := cX6_run) (maxL := 6) (by decide) rfl (Nat.le_of_ble_eq_true rfl) ?_
  intro p e s m args below meth c A Q ls hx hb hml hown hts hA hK hP hD hS hl hret
  have hl : lv_has ls 6 [(0, .ref aB), (1, .int p0), (2, .int p1), (3, .int p2)] := hl
  have k_0 := hts (.fieldLink RX6 19 "BeepNet" "net" "LBeepNet$Net;") (by decide +kernel)
  have k_1 := hts (.fieldLink RX6 33 "BeepNet" "timetable" "LBeepNet$Timetable;") (by decide +kernel)
  have k_2 := hts (.constant RX6 57 (-1000001)) (by decide +kernel)
  have k_3 := hts (.constant RX6 174 (-1000002)) (by decide +kernel)
  have hiX6 : ∀ w ∈ u_ws RX6 TX6 8, w ∈ wsX6_run := fun w hw => List.mem_cons_of_mem _ (List.mem_append_left _ (List.mem_append_left _ (List.mem_append_right _ hw)))
  have hC52 : ∀ (n : Nat) (x1 : Int32) (x3 : Int32) (x4 : Int32) (x5 : Int32) (H : Heap) (locs : List Loc) (ls : Array Slot), fX6_run_c52 N_posts N_neighbours T_size T_rounds n x1 x3 x4 x5 = some rr → va_P (dC, dI) vwCl [(aB, .inr (6, [.ref aS, .ref aN, .ref aR, .ref aT, .ref aQ, .ref aK, .int B_latestFinding, .int B_latestFault])), (aN, .inr (1, [.ref aN_neighbours, .int N_posts])), (aN_neighbours, .inl (cI, 8, .inl N_neighbours)), (aT, .inr (5, [.ref aT_rounds, .int T_size])), (aT_rounds, .inl (cI, 20, .inl T_rounds))] H → va_D A [(aB, .inr (6, [.ref aS, .ref aN, .ref aR, .ref aT, .ref aQ, .ref aK, .int B_latestFinding, .int B_latestFault])), (aN, .inr (1, [.ref aN_neighbours, .int N_posts])), (aN_neighbours, .inl (cI, 8, .inl N_neighbours)), (aT, .inr (5, [.ref aT_rounds, .int T_size])), (aT_rounds, .inl (cI, 20, .inl T_rounds))] → va_S A s.heap H locs → lv_has ls 6 [(0, .ref aB), (1, .int x1), (3, .int x3), (4, .int x4), (5, .int x5)] → W p l e rmX6_run s m args below meth c H locs 0 0 Q (F0 m 52 ls []) := by
    intro n
    induction n with
    | zero => intro x1 x3 x4 x5 H locs ls h; rw [fX6_run_c52] at h; cases h
    | succ n52 ih52 =>
      intro x1 x3 x4 x5 H locs ls h hP hD hS hl
      rw [fX6_run_c52] at h
      refine lv_iload hx hb dX6_run_52 (lv_at hl 4 rfl) ?_
      refine lv_iload_n hx hb dX6_run_54 rfl (lv_at hl 2 rfl) ?_
      refine lv_icmp_ge (tgt := 92) hx hb dX6_run_55 (by decide) (fun c5301 => ?_) (fun c5301 => ?_)
      · have h := ift c5301 h
        refine lv_iload hx hb dX6_run_92 (lv_at hl 3 rfl) ?_
        obtain rfl := sj1 h
        exact hret _ _ _ _ _ rfl rfl hP hD hS dX6_run_94
      · have h := ifn c5301 h
        refine lv_aload_n hx hb dX6_run_58 rfl (lv_at hl 0 rfl) ?_
        refine ka_get (v := .ref aN) (C := RX6) (T := TX6) (Nf := 8) (ref := "BeepNet") hx hb hts hiX6 hown hK hP 0 rfl rfl 1 (by decide) k_0 rfl rfl dX6_run_59 ?_
        refine lv_iload_n hx hb dX6_run_62 rfl (lv_at hl 1 rfl) ?_
        refine lv_iload hx hb dX6_run_63 (lv_at hl 3 rfl) ?_
        refine lv_aload_n hx hb dX6_run_65 rfl (lv_at hl 0 rfl) ?_
        refine ka_get (v := .ref aT) (C := RX6) (T := TX6) (Nf := 8) (ref := "BeepNet") hx hb hts hiX6 hown hK hP 0 rfl rfl 3 (by decide) k_1 rfl rfl dX6_run_66 ?_
        refine lv_iload hx hb dX6_run_69 (lv_at hl 4 rfl) ?_
        refine lv_aload_n hx hb dX6_run_71 rfl (lv_at hl 0 rfl) ?_
        refine ka_get (v := .ref aN) (C := RX6) (T := TX6) (Nf := 8) (ref := "BeepNet") hx hb hts hiX6 hown hK hP 0 rfl rfl 1 (by decide) k_0 rfl rfl dX6_run_72 ?_
        obtain ⟨r5302, e5303, h⟩ := bd1_s h
        refine kc_vi (rest := [.int x5, .ref aT, .int x4, .int x1, .ref aN]) (wr := [(aB, .inr (6, [.ref aS, .ref aN, .ref aR, .ref aT, .ref aQ, .ref aK, .int B_latestFinding, .int B_latestFault])), (aN_neighbours, .inl (cI, 8, .inl N_neighbours)), (aT, .inr (5, [.ref aT_rounds, .int T_size])), (aT_rounds, .inl (cI, 20, .inl T_rounds))]) (wF := [(aB, .inr (6, [.ref aS, .ref aN, .ref aR, .ref aT, .ref aQ, .ref aK, .int B_latestFinding, .int B_latestFault])), (aN, .inr (1, [.ref aN_neighbours, .int N_posts])), (aN_neighbours, .inl (cI, 8, .inl N_neighbours)), (aT, .inr (5, [.ref aT_rounds, .int T_size])), (aT_rounds, .inl (cI, 20, .inl T_rounds))]) ⟨hx, hb, hml, hown, hts⟩ (c_X1_allPosts l dC dI cI cJ cZ cA aN aN_neighbours N_posts r5302 e5303) (cwV 0 hts gX6_run_X1_allPosts rfl rfl rfl (by decide +kernel) ⟨Nat.le_of_ble_eq_true rfl, Nat.le_of_ble_eq_true rfl⟩) hK hP hD hS hA [1] [0, 2, 3, 4] [0, 4, 1, 2, 3] 0 rfl rfl rfl rfl (by decide) rfl rfl rfl rfl rfl rfl hl.1 rfl (Nat.le_of_ble_eq_true rfl) dX6_run_75 ⟨Nat.zero_le _, Nat.zero_le _⟩ (fun H locs hP hD hS => ?_)
        obtain ⟨r5304, e5305, h⟩ := bd1_s h
        refine kc_vi (rest := [.int x4, .int x1, .ref aN]) (wr := [(aB, .inr (6, [.ref aS, .ref aN, .ref aR, .ref aT, .ref aQ, .ref aK, .int B_latestFinding, .int B_latestFault])), (aN, .inr (1, [.ref aN_neighbours, .int N_posts])), (aN_neighbours, .inl (cI, 8, .inl N_neighbours))]) (wF := [(aB, .inr (6, [.ref aS, .ref aN, .ref aR, .ref aT, .ref aQ, .ref aK, .int B_latestFinding, .int B_latestFault])), (aN, .inr (1, [.ref aN_neighbours, .int N_posts])), (aN_neighbours, .inl (cI, 8, .inl N_neighbours)), (aT, .inr (5, [.ref aT_rounds, .int T_size])), (aT_rounds, .inl (cI, 20, .inl T_rounds))]) ⟨hx, hb, hml, hown, hts⟩ (c_X5_soundsOverAndOver l dC dI cI cJ cZ cA aT aT_rounds T_size T_rounds x5 r5302 r5304 e5305) (cwV 2 hts gX6_run_X5_soundsOverAndOver rfl rfl rfl (by decide +kernel) ⟨Nat.le_of_ble_eq_true rfl, Nat.le_of_ble_eq_true rfl⟩) hK hP hD hS hA [3, 4] [0, 1, 2] [0, 1, 2, 3, 4] 0 rfl rfl rfl rfl (by decide) rfl rfl rfl rfl rfl rfl hl.1 rfl (Nat.le_of_ble_eq_true rfl) dX6_run_78 ⟨Nat.zero_le _, Nat.zero_le _⟩ (fun H locs hP hD hS => ?_)
        obtain ⟨r5306, e5307, h⟩ := bd1_s h
        refine kc_vi (rest := []) (wr := [(aB, .inr (6, [.ref aS, .ref aN, .ref aR, .ref aT, .ref aQ, .ref aK, .int B_latestFinding, .int B_latestFault])), (aT, .inr (5, [.ref aT_rounds, .int T_size])), (aT_rounds, .inl (cI, 20, .inl T_rounds))]) (wF := [(aB, .inr (6, [.ref aS, .ref aN, .ref aR, .ref aT, .ref aQ, .ref aK, .int B_latestFinding, .int B_latestFault])), (aN, .inr (1, [.ref aN_neighbours, .int N_posts])), (aN_neighbours, .inl (cI, 8, .inl N_neighbours)), (aT, .inr (5, [.ref aT_rounds, .int T_size])), (aT_rounds, .inl (cI, 20, .inl T_rounds))]) ⟨hx, hb, hml, hown, hts⟩ (c_X1_knowAfter l dC dI cI cJ cZ cA aN aN_neighbours N_posts N_neighbours x1 x4 r5304 r5306 e5307) (cwV 3 hts gX6_run_X1_knowAfter rfl rfl rfl (by decide +kernel) ⟨Nat.le_of_ble_eq_true rfl, Nat.le_of_ble_eq_true rfl⟩) hK hP hD hS hA [1, 2] [0, 3, 4] [0, 3, 4, 1, 2] 0 rfl rfl rfl rfl (by decide) rfl rfl rfl rfl rfl rfl hl.1 rfl (Nat.le_of_ble_eq_true rfl) dX6_run_81 ⟨Nat.zero_le _, Nat.zero_le _⟩ (fun H locs hP hD hS => ?_)
        refine lv_istore (lv' := [(4, .int r5306), (0, .ref aB), (1, .int x1), (3, .int x3), (5, .int x5)]) hx hb dX6_run_84 hl (by decide) rfl (fun ls hl => ?_)
        refine lv_iinc (v := x5 + 1) (lv' := [(5, .int (x5 + 1)), (4, .int r5306), (0, .ref aB), (1, .int x1), (3, .int x3)]) hx hb dX6_run_86 hl (k := 4) rfl rfl (by decide) rfl (fun ls hl => ?_)
        refine lv_goto (tgt := 52) hx hb dX6_run_89 (by decide) ?_
        exact ih52 x1 x3 r5306 (x5 + 1) _ _ _ h hP hD hS (lv_sub hl [2, 3, 4, 1, 0] rfl)
  unfold fX6_run at h
  refine lv_iload_n hx hb dX6_run_0 rfl (lv_at hl 1 rfl) ?_
  obtain ⟨r1, e2, h⟩ := bd1_s h
  refine kc_si (rest := []) (wr := [(aB, .inr (6, [.ref aS, .ref aN, .ref aR, .ref aT, .ref aQ, .ref aK, .int B_latestFinding, .int B_latestFault])), (aN, .inr (1, [.ref aN_neighbours, .int N_posts])), (aN_neighbours, .inl (cI, 8, .inl N_neighbours)), (aT, .inr (5, [.ref aT_rounds, .int T_size])), (aT_rounds, .inl (cI, 20, .inl T_rounds))]) (wF := [(aB, .inr (6, [.ref aS, .ref aN, .ref aR, .ref aT, .ref aQ, .ref aK, .int B_latestFinding, .int B_latestFault])), (aN, .inr (1, [.ref aN_neighbours, .int N_posts])), (aN_neighbours, .inl (cI, 8, .inl N_neighbours)), (aT, .inr (5, [.ref aT_rounds, .int T_size])), (aT_rounds, .inl (cI, 20, .inl T_rounds))]) ⟨hx, hb, hml, hown, hts⟩ (c_X6_isHearing l dC dI cI cJ cZ cA p0 r1 e2) (va_cwS 1 hts gX6_run_X6_isHearing rfl rfl rfl (by decide +kernel) ⟨Nat.le_of_ble_eq_true rfl, Nat.le_of_ble_eq_true rfl⟩) hK hP hD hS hA [] [0, 1, 2, 3, 4] [0, 1, 2, 3, 4] rfl rfl rfl rfl (by decide) rfl rfl rfl hl.1 rfl (Nat.le_of_ble_eq_true rfl) dX6_run_1 ⟨Nat.zero_le _, Nat.zero_le _⟩ (fun H locs hP hD hS => ?_)
  refine lv_if_eq (tgt := 28) hx hb dX6_run_4 (by decide) (fun c3 => ?_) (fun c3 => ?_)
  · have h := ift c3 h
    refine lv_ldc hx hb hown k_2 dX6_run_28 ?_
    obtain rfl := sj1 h
    exact hret _ _ _ _ _ rfl rfl hP hD hS dX6_run_30
  · have h := ifn c3 h
    refine lv_aload_n hx hb dX6_run_7 rfl (lv_at hl 0 rfl) ?_
    refine ka_get (v := .ref aN) (C := RX6) (T := TX6) (Nf := 8) (ref := "BeepNet") hx hb hts hiX6 hown hK hP 0 rfl rfl 1 (by decide) k_0 rfl rfl dX6_run_8 ?_
    refine lv_iload_n hx hb dX6_run_11 rfl (lv_at hl 2 rfl) ?_
    obtain ⟨r4, e5, h⟩ := bd1_s h
    refine kc_vi (rest := []) (wr := [(aB, .inr (6, [.ref aS, .ref aN, .ref aR, .ref aT, .ref aQ, .ref aK, .int B_latestFinding, .int B_latestFault])), (aN_neighbours, .inl (cI, 8, .inl N_neighbours)), (aT, .inr (5, [.ref aT_rounds, .int T_size])), (aT_rounds, .inl (cI, 20, .inl T_rounds))]) (wF := [(aB, .inr (6, [.ref aS, .ref aN, .ref aR, .ref aT, .ref aQ, .ref aK, .int B_latestFinding, .int B_latestFault])), (aN, .inr (1, [.ref aN_neighbours, .int N_posts])), (aN_neighbours, .inl (cI, 8, .inl N_neighbours)), (aT, .inr (5, [.ref aT_rounds, .int T_size])), (aT_rounds, .inl (cI, 20, .inl T_rounds))]) ⟨hx, hb, hml, hown, hts⟩ (c_X1_hasPost l dC dI cI cJ cZ cA aN aN_neighbours N_posts p1 r4 e5) (cwV 1 hts gX6_run_X1_hasPost rfl rfl rfl (by decide +kernel) ⟨Nat.le_of_ble_eq_true rfl, Nat.le_of_ble_eq_true rfl⟩) hK hP hD hS hA [1] [0, 2, 3, 4] [0, 4, 1, 2, 3] 0 rfl rfl rfl rfl (by decide) rfl rfl rfl rfl rfl rfl hl.1 rfl (Nat.le_of_ble_eq_true rfl) dX6_run_12 ⟨Nat.zero_le _, Nat.zero_le _⟩ (fun H locs hP hD hS => ?_)
    refine lv_if_eq (tgt := 28) hx hb dX6_run_15 (by decide) (fun c6 => ?_) (fun c6 => ?_)
    · have h := ift c6 h
      refine lv_ldc hx hb hown k_2 dX6_run_28 ?_
      obtain rfl := sj1 h
      exact hret _ _ _ _ _ rfl rfl hP hD hS dX6_run_30
    · have h := ifn c6 h
      refine lv_iload_n hx hb dX6_run_18 rfl (lv_at hl 3 rfl) ?_
      refine lv_if_lt (tgt := 28) hx hb dX6_run_19 (by decide) (fun c7 => ?_) (fun c7 => ?_)
      · have h := ift c7 h
        refine lv_ldc hx hb hown k_2 dX6_run_28 ?_
        obtain rfl := sj1 h
        exact hret _ _ _ _ _ rfl rfl hP hD hS dX6_run_30
      · have h := ifn c7 h
        refine lv_iload_n hx hb dX6_run_22 rfl (lv_at hl 3 rfl) ?_
        refine lv_bipush (v := 60) hx hb dX6_run_23 (by decide) ?_
        refine lv_icmp_le (tgt := 31) hx hb dX6_run_25 (by decide) (fun c8 => ?_) (fun c8 => ?_)
        · have h := ift c8 h
          refine lv_aload_n hx hb dX6_run_31 rfl (lv_at hl 0 rfl) ?_
          refine ka_get (v := .ref aT) (C := RX6) (T := TX6) (Nf := 8) (ref := "BeepNet") hx hb hts hiX6 hown hK hP 0 rfl rfl 3 (by decide) k_1 rfl rfl dX6_run_32 ?_
          obtain ⟨r9, e10, h⟩ := bd1_s h
          refine kc_vi (rest := []) (wr := [(aB, .inr (6, [.ref aS, .ref aN, .ref aR, .ref aT, .ref aQ, .ref aK, .int B_latestFinding, .int B_latestFault])), (aN, .inr (1, [.ref aN_neighbours, .int N_posts])), (aN_neighbours, .inl (cI, 8, .inl N_neighbours)), (aT_rounds, .inl (cI, 20, .inl T_rounds))]) (wF := [(aB, .inr (6, [.ref aS, .ref aN, .ref aR, .ref aT, .ref aQ, .ref aK, .int B_latestFinding, .int B_latestFault])), (aN, .inr (1, [.ref aN_neighbours, .int N_posts])), (aN_neighbours, .inl (cI, 8, .inl N_neighbours)), (aT, .inr (5, [.ref aT_rounds, .int T_size])), (aT_rounds, .inl (cI, 20, .inl T_rounds))]) ⟨hx, hb, hml, hown, hts⟩ (c_X5_size l dC dI cI cJ cZ cA aT aT_rounds T_size r9 e10) (cwV 0 hts gX6_run_X5_size rfl rfl rfl (by decide +kernel) ⟨Nat.le_of_ble_eq_true rfl, Nat.le_of_ble_eq_true rfl⟩) hK hP hD hS hA [3] [0, 1, 2, 4] [0, 1, 2, 4, 3] 0 rfl rfl rfl rfl (by decide) rfl rfl rfl rfl rfl rfl hl.1 rfl (Nat.le_of_ble_eq_true rfl) dX6_run_35 ⟨Nat.zero_le _, Nat.zero_le _⟩ (fun H locs hP hD hS => ?_)
          refine lv_if_ne (tgt := 44) hx hb dX6_run_38 (by decide) (fun c11 => ?_) (fun c11 => ?_)
          · have h := ifn c11 h
            refine lv_iconst (v := 1) hx hb dX6_run_44 (by decide) ?_
            refine lv_iload_n hx hb dX6_run_45 rfl (lv_at hl 2 rfl) ?_
            refine lv_ishl hx hb dX6_run_46 ?_
            obtain ⟨v12, ev12, h⟩ := bnd_s h
            refine kn_i ev12 ?_
            refine lv_istore (lv' := [(4, .int v12), (0, .ref aB), (1, .int p0), (2, .int p1), (3, .int p2)]) hx hb dX6_run_47 hl (by decide) rfl (fun ls hl => ?_)
            refine lv_iconst (v := 0) hx hb dX6_run_49 (by decide) ?_
            refine lv_istore (lv' := [(5, .int 0), (4, .int v12), (0, .ref aB), (1, .int p0), (2, .int p1), (3, .int p2)]) hx hb dX6_run_50 hl (by decide) rfl (fun ls hl => ?_)
            exact hC52 FU p0 p2 v12 0 _ _ _ h hP hD hS (lv_sub hl [2, 3, 5, 1, 0] rfl)
          · have h := ift c11 h
            refine lv_ldc hx hb hown k_3 dX6_run_41 ?_
            obtain rfl := sj1 h
            exact hret _ _ _ _ _ rfl rfl hP hD hS dX6_run_43
        · have h := ifn c8 h
          refine lv_ldc hx hb hown k_2 dX6_run_28 ?_
          obtain rfl := sj1 h
          exact hret _ _ _ _ _ rfl rfl hP hD hS dX6_run_30
set_option maxHeartbeats 4000000 in
set_option maxRecDepth 100000 in
theorem c_X6_least (l : Launch) (dC : Nat → ClassId) (dI : Nat → Nat → Nat) (cI cJ cZ cA : ClassId) (aB aS aN aR aT aQ aK aN_neighbours aQ_heard aQ_fewest aQ_spent aQ_cases : Nat) (B_latestFinding : Int32) (B_latestFault : Int32) (N_posts : Int32) (N_neighbours : Nat → Int32) (Q_heard : Nat → Int32) (Q_fewest : Nat → Int32) (p0 : Int32) (p1 : Int32) (p2 : Int32) (rr : Int32) (Q_heard_z : Nat → Int32) (Q_fewest_z : Nat → Int32) (h : fX6_least N_posts N_neighbours Q_heard Q_fewest p0 p1 p2 = some (rr, Q_heard_z, Q_fewest_z)) : Cti l yX6_least wsX6_least rmX6_least (dC, dI) (tyL cI cJ cZ cA) [(aB, .inr (6, [.ref aS, .ref aN, .ref aR, .ref aT, .ref aQ, .ref aK, .int B_latestFinding, .int B_latestFault])), (aN, .inr (1, [.ref aN_neighbours, .int N_posts])), (aN_neighbours, .inl (cI, 8, .inl N_neighbours)), (aQ, .inr (3, [.ref aQ_heard, .ref aQ_fewest, .ref aQ_spent, .ref aQ_cases])), (aQ_heard, .inl (cI, 256, .inl Q_heard)), (aQ_fewest, .inl (cI, 256, .inl Q_fewest))] [(aB, .inr (6, [.ref aS, .ref aN, .ref aR, .ref aT, .ref aQ, .ref aK, .int B_latestFinding, .int B_latestFault])), (aN, .inr (1, [.ref aN_neighbours, .int N_posts])), (aN_neighbours, .inl (cI, 8, .inl N_neighbours)), (aQ, .inr (3, [.ref aQ_heard, .ref aQ_fewest, .ref aQ_spent, .ref aQ_cases])), (aQ_heard, .inl (cI, 256, .inl Q_heard_z)), (aQ_fewest, .inl (cI, 256, .inl Q_fewest_z))] [.ref aB, .int p0, .int p1, .int p2] rr := by
  refine ct_int (ty := .int) (cc := cX6_least) (maxL := 4) (by decide) rfl (Nat.le_of_ble_eq_true rfl) ?_
  intro p e s m args below meth c A Q ls hx hb hml hown hts hA hK hP hD hS hl hret
  have hl : lv_has ls 4 [(0, .ref aB), (1, .int p0), (2, .int p1), (3, .int p2)] := hl
  have k_0 := hts (.constant RX6 57 (-1000001)) (by decide +kernel)
  have k_1 := hts (.fieldLink RX6 19 "BeepNet" "net" "LBeepNet$Net;") (by decide +kernel)
  have k_2 := hts (.fieldLink RX6 40 "BeepNet" "search" "LBeepNet$Search;") (by decide +kernel)
  have hiX6 : ∀ w ∈ u_ws RX6 TX6 8, w ∈ wsX6_least := fun w hw => List.mem_cons_of_mem _ (List.mem_append_left _ (List.mem_append_left _ (List.mem_append_right _ hw)))
  unfold fX6_least at h
  refine lv_iload_n hx hb dX6_least_0 rfl (lv_at hl 1 rfl) ?_
  obtain ⟨r1, e2, h⟩ := bd1_s h
  refine kc_si (rest := []) (wr := [(aB, .inr (6, [.ref aS, .ref aN, .ref aR, .ref aT, .ref aQ, .ref aK, .int B_latestFinding, .int B_latestFault])), (aN, .inr (1, [.ref aN_neighbours, .int N_posts])), (aN_neighbours, .inl (cI, 8, .inl N_neighbours)), (aQ, .inr (3, [.ref aQ_heard, .ref aQ_fewest, .ref aQ_spent, .ref aQ_cases])), (aQ_heard, .inl (cI, 256, .inl Q_heard)), (aQ_fewest, .inl (cI, 256, .inl Q_fewest))]) (wF := [(aB, .inr (6, [.ref aS, .ref aN, .ref aR, .ref aT, .ref aQ, .ref aK, .int B_latestFinding, .int B_latestFault])), (aN, .inr (1, [.ref aN_neighbours, .int N_posts])), (aN_neighbours, .inl (cI, 8, .inl N_neighbours)), (aQ, .inr (3, [.ref aQ_heard, .ref aQ_fewest, .ref aQ_spent, .ref aQ_cases])), (aQ_heard, .inl (cI, 256, .inl Q_heard)), (aQ_fewest, .inl (cI, 256, .inl Q_fewest))]) ⟨hx, hb, hml, hown, hts⟩ (c_X6_isHearing l dC dI cI cJ cZ cA p0 r1 e2) (va_cwS 1 hts gX6_least_X6_isHearing rfl rfl rfl (by decide +kernel) ⟨Nat.le_of_ble_eq_true rfl, Nat.le_of_ble_eq_true rfl⟩) hK hP hD hS hA [] [0, 1, 2, 3, 4, 5] [0, 1, 2, 3, 4, 5] rfl rfl rfl rfl (by decide) rfl rfl rfl hl.1 rfl (Nat.le_of_ble_eq_true rfl) dX6_least_1 ⟨Nat.zero_le _, Nat.zero_le _⟩ (fun H locs hP hD hS => ?_)
  refine lv_if_eq (tgt := 31) hx hb dX6_least_4 (by decide) (fun c3 => ?_) (fun c3 => ?_)
  · have h := ift c3 h
    refine lv_ldc hx hb hown k_0 dX6_least_31 ?_
    obtain ⟨rfl, rfl, rfl⟩ := sj3 h
    exact hret _ _ _ _ _ rfl rfl hP hD hS dX6_least_33
  · have h := ifn c3 h
    refine lv_iload_n hx hb dX6_least_7 rfl (lv_at hl 2 rfl) ?_
    refine lv_if_eq (tgt := 31) hx hb dX6_least_8 (by decide) (fun c4 => ?_) (fun c4 => ?_)
    · have h := ift c4 h
      refine lv_ldc hx hb hown k_0 dX6_least_31 ?_
      obtain ⟨rfl, rfl, rfl⟩ := sj3 h
      exact hret _ _ _ _ _ rfl rfl hP hD hS dX6_least_33
    · have h := ifn c4 h
      refine lv_aload_n hx hb dX6_least_11 rfl (lv_at hl 0 rfl) ?_
      refine ka_get (v := .ref aN) (C := RX6) (T := TX6) (Nf := 8) (ref := "BeepNet") hx hb hts hiX6 hown hK hP 0 rfl rfl 1 (by decide) k_1 rfl rfl dX6_least_12 ?_
      refine lv_iload_n hx hb dX6_least_15 rfl (lv_at hl 2 rfl) ?_
      obtain ⟨r5, e6, h⟩ := bd1_s h
      refine kc_vi (rest := []) (wr := [(aB, .inr (6, [.ref aS, .ref aN, .ref aR, .ref aT, .ref aQ, .ref aK, .int B_latestFinding, .int B_latestFault])), (aN_neighbours, .inl (cI, 8, .inl N_neighbours)), (aQ, .inr (3, [.ref aQ_heard, .ref aQ_fewest, .ref aQ_spent, .ref aQ_cases])), (aQ_heard, .inl (cI, 256, .inl Q_heard)), (aQ_fewest, .inl (cI, 256, .inl Q_fewest))]) (wF := [(aB, .inr (6, [.ref aS, .ref aN, .ref aR, .ref aT, .ref aQ, .ref aK, .int B_latestFinding, .int B_latestFault])), (aN, .inr (1, [.ref aN_neighbours, .int N_posts])), (aN_neighbours, .inl (cI, 8, .inl N_neighbours)), (aQ, .inr (3, [.ref aQ_heard, .ref aQ_fewest, .ref aQ_spent, .ref aQ_cases])), (aQ_heard, .inl (cI, 256, .inl Q_heard)), (aQ_fewest, .inl (cI, 256, .inl Q_fewest))]) ⟨hx, hb, hml, hown, hts⟩ (c_X1_hasSet l dC dI cI cJ cZ cA aN aN_neighbours N_posts p1 r5 e6) (cwV 1 hts gX6_least_X1_hasSet rfl rfl rfl (by decide +kernel) ⟨Nat.le_of_ble_eq_true rfl, Nat.le_of_ble_eq_true rfl⟩) hK hP hD hS hA [1] [0, 2, 3, 4, 5] [0, 5, 1, 2, 3, 4] 0 rfl rfl rfl rfl (by decide) rfl rfl rfl rfl rfl rfl hl.1 rfl (Nat.le_of_ble_eq_true rfl) dX6_least_16 ⟨Nat.zero_le _, Nat.zero_le _⟩ (fun H locs hP hD hS => ?_)
      refine lv_if_eq (tgt := 31) hx hb dX6_least_19 (by decide) (fun c7 => ?_) (fun c7 => ?_)
      · have h := ift c7 h
        refine lv_ldc hx hb hown k_0 dX6_least_31 ?_
        obtain ⟨rfl, rfl, rfl⟩ := sj3 h
        exact hret _ _ _ _ _ rfl rfl hP hD hS dX6_least_33
      · have h := ifn c7 h
        refine lv_iload_n hx hb dX6_least_22 rfl (lv_at hl 3 rfl) ?_
        refine lv_if_lt (tgt := 31) hx hb dX6_least_23 (by decide) (fun c8 => ?_) (fun c8 => ?_)
        · have h := ift c8 h
          refine lv_ldc hx hb hown k_0 dX6_least_31 ?_
          obtain ⟨rfl, rfl, rfl⟩ := sj3 h
          exact hret _ _ _ _ _ rfl rfl hP hD hS dX6_least_33
        · have h := ifn c8 h
          refine lv_iload_n hx hb dX6_least_26 rfl (lv_at hl 3 rfl) ?_
          refine lv_iconst (v := 1) hx hb dX6_least_27 (by decide) ?_
          refine lv_icmp_le (tgt := 34) hx hb dX6_least_28 (by decide) (fun c9 => ?_) (fun c9 => ?_)
          · have h := ift c9 h
            refine lv_aload_n hx hb dX6_least_34 rfl (lv_at hl 0 rfl) ?_
            refine ka_get (v := .ref aQ) (C := RX6) (T := TX6) (Nf := 8) (ref := "BeepNet") hx hb hts hiX6 hown hK hP 0 rfl rfl 4 (by decide) k_2 rfl rfl dX6_least_35 ?_
            refine lv_aload_n hx hb dX6_least_38 rfl (lv_at hl 0 rfl) ?_
            refine ka_get (v := .ref aN) (C := RX6) (T := TX6) (Nf := 8) (ref := "BeepNet") hx hb hts hiX6 hown hK hP 0 rfl rfl 1 (by decide) k_1 rfl rfl dX6_least_39 ?_
            refine lv_iload_n hx hb dX6_least_42 rfl (lv_at hl 1 rfl) ?_
            obtain ⟨Q_heard_10, e11, h⟩ := bd1_s h
            refine kc_vv (rest := []) (wr := [(aB, .inr (6, [.ref aS, .ref aN, .ref aR, .ref aT, .ref aQ, .ref aK, .int B_latestFinding, .int B_latestFault])), (aQ_fewest, .inl (cI, 256, .inl Q_fewest))]) (wF := [(aB, .inr (6, [.ref aS, .ref aN, .ref aR, .ref aT, .ref aQ, .ref aK, .int B_latestFinding, .int B_latestFault])), (aN, .inr (1, [.ref aN_neighbours, .int N_posts])), (aN_neighbours, .inl (cI, 8, .inl N_neighbours)), (aQ, .inr (3, [.ref aQ_heard, .ref aQ_fewest, .ref aQ_spent, .ref aQ_cases])), (aQ_heard, .inl (cI, 256, .inl Q_heard_10)), (aQ_fewest, .inl (cI, 256, .inl Q_fewest))]) ⟨hx, hb, hml, hown, hts⟩ (c_X3_listen l dC dI cI cJ cZ cA aN aN_neighbours aQ aQ_heard aQ_fewest aQ_spent aQ_cases N_posts N_neighbours Q_heard p0 Q_heard_10 e11) (cwV 2 hts gX6_least_X3_listen rfl rfl rfl (by decide +kernel) ⟨Nat.le_of_ble_eq_true rfl, Nat.le_of_ble_eq_true rfl⟩) hK hP hD hS hA [1, 2, 3, 4] [0, 5] [0, 2, 3, 4, 5, 1] 2 rfl rfl rfl rfl (by decide) rfl rfl rfl rfl rfl rfl hl.1 rfl (Nat.le_of_ble_eq_true rfl) dX6_least_43 ⟨Nat.zero_le _, Nat.zero_le _⟩ (fun H locs hP hD hS => ?_)
            refine lv_aload_n hx hb dX6_least_46 rfl (lv_at hl 0 rfl) ?_
            refine ka_get (v := .ref aQ) (C := RX6) (T := TX6) (Nf := 8) (ref := "BeepNet") hx hb hts hiX6 hown hK hP 0 rfl rfl 4 (by decide) k_2 rfl rfl dX6_least_47 ?_
            refine lv_iload_n hx hb dX6_least_50 rfl (lv_at hl 2 rfl) ?_
            refine lv_aload_n hx hb dX6_least_51 rfl (lv_at hl 0 rfl) ?_
            refine ka_get (v := .ref aN) (C := RX6) (T := TX6) (Nf := 8) (ref := "BeepNet") hx hb hts hiX6 hown hK hP 0 rfl rfl 1 (by decide) k_1 rfl rfl dX6_least_52 ?_
            refine lv_iload_n hx hb dX6_least_55 rfl (lv_at hl 2 rfl) ?_
            obtain ⟨r12, e13, h⟩ := bd1_s h
            refine kc_vi (rest := [.int p1, .ref aQ]) (wr := [(aB, .inr (6, [.ref aS, .ref aN, .ref aR, .ref aT, .ref aQ, .ref aK, .int B_latestFinding, .int B_latestFault])), (aQ, .inr (3, [.ref aQ_heard, .ref aQ_fewest, .ref aQ_spent, .ref aQ_cases])), (aQ_heard, .inl (cI, 256, .inl Q_heard_10)), (aQ_fewest, .inl (cI, 256, .inl Q_fewest))]) (wF := [(aB, .inr (6, [.ref aS, .ref aN, .ref aR, .ref aT, .ref aQ, .ref aK, .int B_latestFinding, .int B_latestFault])), (aN, .inr (1, [.ref aN_neighbours, .int N_posts])), (aN_neighbours, .inl (cI, 8, .inl N_neighbours)), (aQ, .inr (3, [.ref aQ_heard, .ref aQ_fewest, .ref aQ_spent, .ref aQ_cases])), (aQ_heard, .inl (cI, 256, .inl Q_heard_10)), (aQ_fewest, .inl (cI, 256, .inl Q_fewest))]) ⟨hx, hb, hml, hown, hts⟩ (c_X1_reachOf l dC dI cI cJ cZ cA aN aN_neighbours N_posts N_neighbours p1 r12 e13) (cwV 1 hts gX6_least_X1_reachOf rfl rfl rfl (by decide +kernel) ⟨Nat.le_of_ble_eq_true rfl, Nat.le_of_ble_eq_true rfl⟩) hK hP hD hS hA [1, 2] [0, 3, 4, 5] [0, 4, 5, 1, 2, 3] 0 rfl rfl rfl rfl (by decide) rfl rfl rfl rfl rfl rfl hl.1 rfl (Nat.le_of_ble_eq_true rfl) dX6_least_56 ⟨Nat.zero_le _, Nat.zero_le _⟩ (fun H locs hP hD hS => ?_)
            obtain ⟨Q_fewest_14, e15, h⟩ := bd1_s h
            refine kc_vv (rest := []) (wr := [(aB, .inr (6, [.ref aS, .ref aN, .ref aR, .ref aT, .ref aQ, .ref aK, .int B_latestFinding, .int B_latestFault])), (aN, .inr (1, [.ref aN_neighbours, .int N_posts])), (aN_neighbours, .inl (cI, 8, .inl N_neighbours))]) (wF := [(aB, .inr (6, [.ref aS, .ref aN, .ref aR, .ref aT, .ref aQ, .ref aK, .int B_latestFinding, .int B_latestFault])), (aN, .inr (1, [.ref aN_neighbours, .int N_posts])), (aN_neighbours, .inl (cI, 8, .inl N_neighbours)), (aQ, .inr (3, [.ref aQ_heard, .ref aQ_fewest, .ref aQ_spent, .ref aQ_cases])), (aQ_heard, .inl (cI, 256, .inl Q_heard_10)), (aQ_fewest, .inl (cI, 256, .inl Q_fewest_14))]) ⟨hx, hb, hml, hown, hts⟩ (c_X3_findFewest l dC dI cI cJ cZ cA aQ aQ_heard aQ_fewest aQ_spent aQ_cases Q_heard_10 Q_fewest p1 r12 Q_fewest_14 e15) (cwV 2 hts gX6_least_X3_findFewest rfl rfl rfl (by decide +kernel) ⟨Nat.le_of_ble_eq_true rfl, Nat.le_of_ble_eq_true rfl⟩) hK hP hD hS hA [3, 4, 5] [0, 1, 2] [0, 1, 2, 3, 4, 5] 0 rfl rfl rfl rfl (by decide) rfl rfl rfl rfl rfl rfl hl.1 rfl (Nat.le_of_ble_eq_true rfl) dX6_least_59 ⟨Nat.zero_le _, Nat.zero_le _⟩ (fun H locs hP hD hS => ?_)
            refine lv_iload_n hx hb dX6_least_62 rfl (lv_at hl 3 rfl) ?_
            refine lv_if_ne (tgt := 77) hx hb dX6_least_63 (by decide) (fun c16 => ?_) (fun c16 => ?_)
            · have h := ifn c16 h
              refine lv_aload_n hx hb dX6_least_77 rfl (lv_at hl 0 rfl) ?_
              refine ka_get (v := .ref aQ) (C := RX6) (T := TX6) (Nf := 8) (ref := "BeepNet") hx hb hts hiX6 hown hK hP 0 rfl rfl 4 (by decide) k_2 rfl rfl dX6_least_78 ?_
              refine lv_iload_n hx hb dX6_least_81 rfl (lv_at hl 2 rfl) ?_
              obtain ⟨r17, e18, h⟩ := bd1_s h
              refine kc_vi (rest := []) (wr := [(aB, .inr (6, [.ref aS, .ref aN, .ref aR, .ref aT, .ref aQ, .ref aK, .int B_latestFinding, .int B_latestFault])), (aN, .inr (1, [.ref aN_neighbours, .int N_posts])), (aN_neighbours, .inl (cI, 8, .inl N_neighbours))]) (wF := [(aB, .inr (6, [.ref aS, .ref aN, .ref aR, .ref aT, .ref aQ, .ref aK, .int B_latestFinding, .int B_latestFault])), (aN, .inr (1, [.ref aN_neighbours, .int N_posts])), (aN_neighbours, .inl (cI, 8, .inl N_neighbours)), (aQ, .inr (3, [.ref aQ_heard, .ref aQ_fewest, .ref aQ_spent, .ref aQ_cases])), (aQ_heard, .inl (cI, 256, .inl Q_heard_10)), (aQ_fewest, .inl (cI, 256, .inl Q_fewest_14))]) ⟨hx, hb, hml, hown, hts⟩ (c_X3_firstSet l dC dI cI cJ cZ cA aQ aQ_heard aQ_fewest aQ_spent aQ_cases Q_heard_10 Q_fewest_14 p1 r17 e18) (cwV 1 hts gX6_least_X3_firstSet rfl rfl rfl (by decide +kernel) ⟨Nat.le_of_ble_eq_true rfl, Nat.le_of_ble_eq_true rfl⟩) hK hP hD hS hA [3, 4, 5] [0, 1, 2] [0, 1, 2, 3, 4, 5] 0 rfl rfl rfl rfl (by decide) rfl rfl rfl rfl rfl rfl hl.1 rfl (Nat.le_of_ble_eq_true rfl) dX6_least_82 ⟨Nat.zero_le _, Nat.zero_le _⟩ (fun H locs hP hD hS => ?_)
              obtain ⟨rfl, rfl, rfl⟩ := sj3 h
              exact hret _ _ _ _ _ rfl rfl hP hD hS dX6_least_85
            · have h := ift c16 h
              refine lv_aload_n hx hb dX6_least_66 rfl (lv_at hl 0 rfl) ?_
              refine ka_get (v := .ref aQ) (C := RX6) (T := TX6) (Nf := 8) (ref := "BeepNet") hx hb hts hiX6 hown hK hP 0 rfl rfl 4 (by decide) k_2 rfl rfl dX6_least_67 ?_
              refine lv_iload_n hx hb dX6_least_70 rfl (lv_at hl 2 rfl) ?_
              obtain ⟨r19, e20, h⟩ := bd1_s h
              refine kc_vi (rest := []) (wr := [(aB, .inr (6, [.ref aS, .ref aN, .ref aR, .ref aT, .ref aQ, .ref aK, .int B_latestFinding, .int B_latestFault])), (aN, .inr (1, [.ref aN_neighbours, .int N_posts])), (aN_neighbours, .inl (cI, 8, .inl N_neighbours)), (aQ_heard, .inl (cI, 256, .inl Q_heard_10))]) (wF := [(aB, .inr (6, [.ref aS, .ref aN, .ref aR, .ref aT, .ref aQ, .ref aK, .int B_latestFinding, .int B_latestFault])), (aN, .inr (1, [.ref aN_neighbours, .int N_posts])), (aN_neighbours, .inl (cI, 8, .inl N_neighbours)), (aQ, .inr (3, [.ref aQ_heard, .ref aQ_fewest, .ref aQ_spent, .ref aQ_cases])), (aQ_heard, .inl (cI, 256, .inl Q_heard_10)), (aQ_fewest, .inl (cI, 256, .inl Q_fewest_14))]) ⟨hx, hb, hml, hown, hts⟩ (c_X3_fewestFrom l dC dI cI cJ cZ cA aQ aQ_heard aQ_fewest aQ_spent aQ_cases Q_fewest_14 p1 r19 e20) (cwV 1 hts gX6_least_X3_fewestFrom rfl rfl rfl (by decide +kernel) ⟨Nat.le_of_ble_eq_true rfl, Nat.le_of_ble_eq_true rfl⟩) hK hP hD hS hA [3, 5] [0, 1, 2, 4] [0, 1, 2, 4, 3, 5] 0 rfl rfl rfl rfl (by decide) rfl rfl rfl rfl rfl rfl hl.1 rfl (Nat.le_of_ble_eq_true rfl) dX6_least_71 ⟨Nat.zero_le _, Nat.zero_le _⟩ (fun H locs hP hD hS => ?_)
              refine lv_goto (tgt := 85) hx hb dX6_least_74 (by decide) ?_
              obtain ⟨rfl, rfl, rfl⟩ := sj3 h
              exact hret _ _ _ _ _ rfl rfl hP hD hS dX6_least_85
          · have h := ifn c9 h
            refine lv_ldc hx hb hown k_0 dX6_least_31 ?_
            obtain ⟨rfl, rfl, rfl⟩ := sj3 h
            exact hret _ _ _ _ _ rfl rfl hP hD hS dX6_least_33
