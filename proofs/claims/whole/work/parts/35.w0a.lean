set_option maxHeartbeats 4000000 in
set_option maxRecDepth 100000 in
theorem c_X0_begunBody (l : Launch) (dC : Nat → ClassId) (dI : Nat → Nat → Nat) (cI cJ cZ cA : ClassId) (aK aN aK_begun : Nat) (K_length : Int32) (K_begun : Nat → Int32) (p0 : Int32) (rr : Int32) (h : fX0_begunBody K_length K_begun p0 = some rr) : Cti l yX0_begunBody wsX0_begunBody rmX0_begunBody (dC, dI) (tyL cI cJ cZ cA) [(aK, .inr (0, [.ref aN, .ref aK_begun, .int K_length])), (aK_begun, .inl (cI, 16, .inl K_begun))] [(aK, .inr (0, [.ref aN, .ref aK_begun, .int K_length])), (aK_begun, .inl (cI, 16, .inl K_begun))] [.ref aK, .int p0] rr := by
  refine ct_int (ty := .int) (cc := cX0_begunBody) (maxL := 2) (by decide) rfl (Nat.le_of_ble_eq_true rfl) ?_
  intro p e s m args below meth c A Q ls hx hb hml hown hts hA hK hP hD hS hl hret
  have hl : lv_has ls 2 [(0, .ref aK), (1, .int p0)] := hl
  have k_0 := hts (.constant RX0 23 (-1000000)) (by decide +kernel)
  have k_1 := hts (.fieldLink RX0 19 "BeepNet$Asks" "length" "I") (by decide +kernel)
  have k_2 := hts (.fieldLink RX0 9 "BeepNet$Asks" "begun" "[I") (by decide +kernel)
  have hiX0 : ∀ w ∈ u_ws RX0 TX0 3, w ∈ wsX0_begunBody := fun w hw => List.mem_cons_of_mem _ (List.mem_append_right _ hw)
  unfold fX0_begunBody at h
  refine lv_iload_n hx hb dX0_begunBody_0 rfl (lv_at hl 1 rfl) ?_
  refine lv_if_lt (tgt := 21) hx hb dX0_begunBody_1 (by decide) (fun c1 => ?_) (fun c1 => ?_)
  · have h := ift c1 h
    refine lv_ldc hx hb hown k_0 dX0_begunBody_21 ?_
    obtain rfl := sj1 h
    exact hret _ _ _ _ _ rfl rfl hP hD hS dX0_begunBody_23
  · have h := ifn c1 h
    refine lv_iload_n hx hb dX0_begunBody_4 rfl (lv_at hl 1 rfl) ?_
    refine lv_aload_n hx hb dX0_begunBody_5 rfl (lv_at hl 0 rfl) ?_
    refine ka_get (v := .int K_length) (C := RX0) (T := TX0) (Nf := 3) (ref := "BeepNet$Asks") hx hb hts hiX0 hown hK hP 0 rfl rfl 2 (by decide) k_1 rfl rfl dX0_begunBody_6 ?_
    refine lv_icmp_ge (tgt := 21) hx hb dX0_begunBody_9 (by decide) (fun c2 => ?_) (fun c2 => ?_)
    · have h := ift c2 h
      refine lv_ldc hx hb hown k_0 dX0_begunBody_21 ?_
      obtain rfl := sj1 h
      exact hret _ _ _ _ _ rfl rfl hP hD hS dX0_begunBody_23
    · have h := ifn c2 h
      refine lv_aload_n hx hb dX0_begunBody_12 rfl (lv_at hl 0 rfl) ?_
      refine ka_get (v := .ref aK_begun) (C := RX0) (T := TX0) (Nf := 3) (ref := "BeepNet$Asks") hx hb hts hiX0 hown hK hP 0 rfl rfl 1 (by decide) k_2 rfl rfl dX0_begunBody_13 ?_
      refine lv_iload_n hx hb dX0_begunBody_16 rfl (lv_at hl 1 rfl) ?_
      obtain ⟨v3, ev3, hn4, h⟩ := ldx_s h
      refine ka_ild hx hb hK hP 1 0 ev3 rfl rfl hn4 dX0_begunBody_17 ?_
      refine lv_goto (tgt := 23) hx hb dX0_begunBody_18 (by decide) ?_
      obtain rfl := sj1 h
      exact hret _ _ _ _ _ rfl rfl hP hD hS dX0_begunBody_23
set_option maxHeartbeats 4000000 in
set_option maxRecDepth 100000 in
theorem c_X0_leave (l : Launch) (dC : Nat → ClassId) (dI : Nat → Nat → Nat) (cI cJ cZ cA : ClassId) (aK aN aK_begun : Nat) (K_length : Int32) (K_begun : Nat → Int32) (p0 : Int32) (K_length_z : Int32) (K_begun_z : Nat → Int32) (h : fX0_leave K_length K_begun p0 = some (K_length_z, K_begun_z)) : Ctv l yX0_leave wsX0_leave rmX0_leave (dC, dI) (tyL cI cJ cZ cA) [(aK, .inr (0, [.ref aN, .ref aK_begun, .int K_length])), (aK_begun, .inl (cI, 16, .inl K_begun))] [(aK, .inr (0, [.ref aN, .ref aK_begun, .int K_length_z])), (aK_begun, .inl (cI, 16, .inl K_begun_z))] [.ref aK, .int p0] := by
  refine ct_void (cc := cX0_leave) (maxL := 2) (by decide) rfl (Nat.le_of_ble_eq_true rfl) ?_
  intro p e s m args below meth c A Q ls hx hb hml hown hts hA hK hP hD hS hl hret
  have hl : lv_has ls 2 [(0, .ref aK), (1, .int p0)] := hl
  have k_0 := hts (.fieldLink RX0 19 "BeepNet$Asks" "length" "I") (by decide +kernel)
  have k_1 := hts (.fieldLink RX0 9 "BeepNet$Asks" "begun" "[I") (by decide +kernel)
  have hiX0 : ∀ w ∈ u_ws RX0 TX0 3, w ∈ wsX0_leave := fun w hw => List.mem_cons_of_mem _ (List.mem_append_right _ hw)
  unfold fX0_leave at h
  refine lv_aload_n hx hb dX0_leave_0 rfl (lv_at hl 0 rfl) ?_
  refine ka_get (v := .int K_length) (C := RX0) (T := TX0) (Nf := 3) (ref := "BeepNet$Asks") hx hb hts hiX0 hown hK hP 0 rfl rfl 2 (by decide) k_0 rfl rfl dX0_leave_1 ?_
  refine lv_bipush (v := 16) hx hb dX0_leave_4 (by decide) ?_
  refine lv_icmp_ge (tgt := 29) hx hb dX0_leave_6 (by decide) (fun c1 => ?_) (fun c1 => ?_)
  · have h := ift c1 h
    obtain ⟨rfl, rfl⟩ := sj2 h
    exact hret _ _ _ _ hP hD hS dX0_leave_29
  · have h := ifn c1 h
    refine lv_aload_n hx hb dX0_leave_9 rfl (lv_at hl 0 rfl) ?_
    refine ka_get (v := .ref aK_begun) (C := RX0) (T := TX0) (Nf := 3) (ref := "BeepNet$Asks") hx hb hts hiX0 hown hK hP 0 rfl rfl 1 (by decide) k_1 rfl rfl dX0_leave_10 ?_
    refine lv_aload_n hx hb dX0_leave_13 rfl (lv_at hl 0 rfl) ?_
    refine ka_get (v := .int K_length) (C := RX0) (T := TX0) (Nf := 3) (ref := "BeepNet$Asks") hx hb hts hiX0 hown hK hP 0 rfl rfl 2 (by decide) k_0 rfl rfl dX0_leave_14 ?_
    refine lv_iload_n hx hb dX0_leave_17 rfl (lv_at hl 1 rfl) ?_
    obtain ⟨g2, eg2, hn3, h⟩ := sti_s h
    refine ka_ist (w1 := [(aK, .inr (0, [.ref aN, .ref aK_begun, .int K_length])), (aK_begun, .inl (cI, 16, .inl g2))]) hx hb hK hP hD hS 1 0 eg2 rfl rfl hn3 dX0_leave_18 rfl (fun H locs hP hD hS => ?_)
    refine lv_aload_n hx hb dX0_leave_19 rfl (lv_at hl 0 rfl) ?_
    refine lv_dup hx hb dX0_leave_20 rfl ?_
    refine ka_get (v := .int K_length) (C := RX0) (T := TX0) (Nf := 3) (ref := "BeepNet$Asks") hx hb hts hiX0 hown hK hP 0 rfl rfl 2 (by decide) k_0 rfl rfl dX0_leave_21 ?_
    refine lv_iconst (v := 1) hx hb dX0_leave_24 (by decide) ?_
    refine lv_iadd hx hb dX0_leave_25 ?_
    refine ka_put (w1 := [(aK, .inr (0, [.ref aN, .ref aK_begun, .int (K_length + (1 : Int32))])), (aK_begun, .inl (cI, 16, .inl g2))]) (C := RX0) (T := TX0) (Nf := 3) (ref := "BeepNet$Asks") hx hb hts hiX0 tyX0 tyX0_ok nmX0 hown hK hP hD hS 0 rfl rfl 2 (by decide) k_0 rfl rfl rfl (Nat.le_of_ble_eq_true rfl) dX0_leave_26 rfl (fun H locs hP hD hS => ?_)
    obtain ⟨rfl, rfl⟩ := sj2 h
    exact hret _ _ _ _ hP hD hS dX0_leave_29
set_option maxHeartbeats 4000000 in
set_option maxRecDepth 100000 in
theorem c_X0_sizeLent (l : Launch) (dC : Nat → ClassId) (dI : Nat → Nat → Nat) (cI cJ cZ cA : ClassId) (aN aN_neighbours aK aK_begun : Nat) (N_posts : Int32) (N_neighbours : Nat → Int32) (K_length : Int32) (K_begun : Nat → Int32) (p0 : Int32) (rr : Int32) (K_length_z : Int32) (K_begun_z : Nat → Int32) (h : fX0_sizeLent N_neighbours K_length K_begun p0 = some (rr, K_length_z, K_begun_z)) : Cti l yX0_sizeLent wsX0_sizeLent rmX0_sizeLent (dC, dI) (tyL cI cJ cZ cA) [(aN, .inr (1, [.ref aN_neighbours, .int N_posts])), (aN_neighbours, .inl (cI, 8, .inl N_neighbours)), (aK, .inr (0, [.ref aN, .ref aK_begun, .int K_length])), (aK_begun, .inl (cI, 16, .inl K_begun))] [(aN, .inr (1, [.ref aN_neighbours, .int N_posts])), (aN_neighbours, .inl (cI, 8, .inl N_neighbours)), (aK, .inr (0, [.ref aN, .ref aK_begun, .int K_length_z])), (aK_begun, .inl (cI, 16, .inl K_begun_z))] [.ref aK, .int p0] rr := by
  refine ct_int (ty := .int) (cc := cX0_sizeLent) (maxL := 2) (by decide) rfl (Nat.le_of_ble_eq_true rfl) ?_
  intro p e s m args below meth c A Q ls hx hb hml hown hts hA hK hP hD hS hl hret
  have hl : lv_has ls 2 [(0, .ref aK), (1, .int p0)] := hl
  have k_0 := hts (.fieldLink RX0 15 "BeepNet$Asks" "net" "LBeepNet$Net;") (by decide +kernel)
  have hiX0 : ∀ w ∈ u_ws RX0 TX0 3, w ∈ wsX0_sizeLent := fun w hw => List.mem_cons_of_mem _ (List.mem_append_left _ (List.mem_append_right _ hw))
  unfold fX0_sizeLent at h
  refine lv_aload_n hx hb dX0_sizeLent_0 rfl (lv_at hl 0 rfl) ?_
  refine lv_bipush (v := 10) hx hb dX0_sizeLent_1 (by decide) ?_
  obtain ⟨K_length_1, K_begun_2, e3, h⟩ := bd2_s h
  refine kc_vv (rest := []) (wr := [(aN, .inr (1, [.ref aN_neighbours, .int N_posts])), (aN_neighbours, .inl (cI, 8, .inl N_neighbours))]) (wF := [(aN, .inr (1, [.ref aN_neighbours, .int N_posts])), (aN_neighbours, .inl (cI, 8, .inl N_neighbours)), (aK, .inr (0, [.ref aN, .ref aK_begun, .int K_length_1])), (aK_begun, .inl (cI, 16, .inl K_begun_2))]) ⟨hx, hb, hml, hown, hts⟩ (c_X0_leave l dC dI cI cJ cZ cA aK aN aK_begun K_length K_begun 10 K_length_1 K_begun_2 e3) (cwV 1 hts gX0_sizeLent_X0_leave rfl rfl rfl (by decide +kernel) ⟨Nat.le_of_ble_eq_true rfl, Nat.le_of_ble_eq_true rfl⟩) hK hP hD hS hA [2, 3] [0, 1] [0, 1, 2, 3] 0 rfl rfl rfl rfl (by decide) rfl rfl rfl rfl rfl rfl hl.1 rfl (Nat.le_of_ble_eq_true rfl) dX0_sizeLent_3 ⟨Nat.zero_le _, Nat.zero_le _⟩ (fun H locs hP hD hS => ?_)
  refine lv_aload_n hx hb dX0_sizeLent_6 rfl (lv_at hl 0 rfl) ?_
  refine ka_get (v := .ref aN) (C := RX0) (T := TX0) (Nf := 3) (ref := "BeepNet$Asks") hx hb hts hiX0 hown hK hP 2 rfl rfl 0 (by decide) k_0 rfl rfl dX0_sizeLent_7 ?_
  refine lv_iload_n hx hb dX0_sizeLent_10 rfl (lv_at hl 1 rfl) ?_
  obtain ⟨r4, e5, h⟩ := bd1_s h
  refine kc_vi (rest := []) (wr := [(aK, .inr (0, [.ref aN, .ref aK_begun, .int K_length_1])), (aK_begun, .inl (cI, 16, .inl K_begun_2))]) (wF := [(aN, .inr (1, [.ref aN_neighbours, .int N_posts])), (aN_neighbours, .inl (cI, 8, .inl N_neighbours)), (aK, .inr (0, [.ref aN, .ref aK_begun, .int K_length_1])), (aK_begun, .inl (cI, 16, .inl K_begun_2))]) ⟨hx, hb, hml, hown, hts⟩ (c_X1_degree l dC dI cI cJ cZ cA aN aN_neighbours N_posts N_neighbours p0 r4 e5) (cwV 1 hts gX0_sizeLent_X1_degree rfl rfl rfl (by decide +kernel) ⟨Nat.le_of_ble_eq_true rfl, Nat.le_of_ble_eq_true rfl⟩) hK hP hD hS hA [0, 1] [2, 3] [2, 3, 0, 1] 0 rfl rfl rfl rfl (by decide) rfl rfl rfl rfl rfl rfl hl.1 rfl (Nat.le_of_ble_eq_true rfl) dX0_sizeLent_11 ⟨Nat.zero_le _, Nat.zero_le _⟩ (fun H locs hP hD hS => ?_)
  obtain ⟨rfl, rfl, rfl⟩ := sj3 h
  exact hret _ _ _ _ _ rfl rfl hP hD hS dX0_sizeLent_14
set_option maxHeartbeats 4000000 in
set_option maxRecDepth 100000 in
theorem c_X0_sizeOfLinked (l : Launch) (dC : Nat → ClassId) (dI : Nat → Nat → Nat) (cI cJ cZ cA : ClassId) (aN aN_neighbours aK aK_begun : Nat) (N_posts : Int32) (N_neighbours : Nat → Int32) (K_length : Int32) (K_begun : Nat → Int32) (p0 : Int32) (rr : Int32) (K_length_z : Int32) (K_begun_z : Nat → Int32) (h : fX0_sizeOfLinked N_posts N_neighbours K_length K_begun p0 = some (rr, K_length_z, K_begun_z)) : Cti l yX0_sizeOfLinked wsX0_sizeOfLinked rmX0_sizeOfLinked (dC, dI) (tyL cI cJ cZ cA) [(aN, .inr (1, [.ref aN_neighbours, .int N_posts])), (aN_neighbours, .inl (cI, 8, .inl N_neighbours)), (aK, .inr (0, [.ref aN, .ref aK_begun, .int K_length])), (aK_begun, .inl (cI, 16, .inl K_begun))] [(aN, .inr (1, [.ref aN_neighbours, .int N_posts])), (aN_neighbours, .inl (cI, 8, .inl N_neighbours)), (aK, .inr (0, [.ref aN, .ref aK_begun, .int K_length_z])), (aK_begun, .inl (cI, 16, .inl K_begun_z))] [.ref aK, .int p0] rr := by
  refine ct_int (ty := .int) (cc := cX0_sizeOfLinked) (maxL := 2) (by decide) rfl (Nat.le_of_ble_eq_true rfl) ?_
  intro p e s m args below meth c A Q ls hx hb hml hown hts hA hK hP hD hS hl hret
  have hl : lv_has ls 2 [(0, .ref aK), (1, .int p0)] := hl
  have k_0 := hts (.fieldLink RX0 15 "BeepNet$Asks" "net" "LBeepNet$Net;") (by decide +kernel)
  have hiX0 : ∀ w ∈ u_ws RX0 TX0 3, w ∈ wsX0_sizeOfLinked := fun w hw => List.mem_cons_of_mem _ (List.mem_append_left _ (List.mem_append_right _ hw))
  unfold fX0_sizeOfLinked at h
  refine lv_aload_n hx hb dX0_sizeOfLinked_0 rfl (lv_at hl 0 rfl) ?_
  refine lv_bipush (v := 11) hx hb dX0_sizeOfLinked_1 (by decide) ?_
  obtain ⟨K_length_1, K_begun_2, e3, h⟩ := bd2_s h
  refine kc_vv (rest := []) (wr := [(aN, .inr (1, [.ref aN_neighbours, .int N_posts])), (aN_neighbours, .inl (cI, 8, .inl N_neighbours))]) (wF := [(aN, .inr (1, [.ref aN_neighbours, .int N_posts])), (aN_neighbours, .inl (cI, 8, .inl N_neighbours)), (aK, .inr (0, [.ref aN, .ref aK_begun, .int K_length_1])), (aK_begun, .inl (cI, 16, .inl K_begun_2))]) ⟨hx, hb, hml, hown, hts⟩ (c_X0_leave l dC dI cI cJ cZ cA aK aN aK_begun K_length K_begun 11 K_length_1 K_begun_2 e3) (cwV 1 hts gX0_sizeOfLinked_X0_leave rfl rfl rfl (by decide +kernel) ⟨Nat.le_of_ble_eq_true rfl, Nat.le_of_ble_eq_true rfl⟩) hK hP hD hS hA [2, 3] [0, 1] [0, 1, 2, 3] 0 rfl rfl rfl rfl (by decide) rfl rfl rfl rfl rfl rfl hl.1 rfl (Nat.le_of_ble_eq_true rfl) dX0_sizeOfLinked_3 ⟨Nat.zero_le _, Nat.zero_le _⟩ (fun H locs hP hD hS => ?_)
  refine lv_aload_n hx hb dX0_sizeOfLinked_6 rfl (lv_at hl 0 rfl) ?_
  refine lv_iload_n hx hb dX0_sizeOfLinked_7 rfl (lv_at hl 1 rfl) ?_
  obtain ⟨r4, K_length_5, K_begun_6, e7, h⟩ := bd3_s h
  refine kc_vi (rest := []) (wr := []) (wF := [(aN, .inr (1, [.ref aN_neighbours, .int N_posts])), (aN_neighbours, .inl (cI, 8, .inl N_neighbours)), (aK, .inr (0, [.ref aN, .ref aK_begun, .int K_length_5])), (aK_begun, .inl (cI, 16, .inl K_begun_6))]) ⟨hx, hb, hml, hown, hts⟩ (c_X0_sizeLent l dC dI cI cJ cZ cA aN aN_neighbours aK aK_begun N_posts N_neighbours K_length_1 K_begun_2 p0 r4 K_length_5 K_begun_6 e7) (cwV 1 hts gX0_sizeOfLinked_X0_sizeLent rfl rfl rfl (by decide +kernel) ⟨Nat.le_of_ble_eq_true rfl, Nat.le_of_ble_eq_true rfl⟩) hK hP hD hS hA [0, 1, 2, 3] [] [0, 1, 2, 3] 2 rfl rfl rfl rfl (by decide) rfl rfl rfl rfl rfl rfl hl.1 rfl (Nat.le_of_ble_eq_true rfl) dX0_sizeOfLinked_8 ⟨Nat.zero_le _, Nat.zero_le _⟩ (fun H locs hP hD hS => ?_)
  refine lv_aload_n hx hb dX0_sizeOfLinked_11 rfl (lv_at hl 0 rfl) ?_
  refine ka_get (v := .ref aN) (C := RX0) (T := TX0) (Nf := 3) (ref := "BeepNet$Asks") hx hb hts hiX0 hown hK hP 2 rfl rfl 0 (by decide) k_0 rfl rfl dX0_sizeOfLinked_12 ?_
  refine lv_iload_n hx hb dX0_sizeOfLinked_15 rfl (lv_at hl 1 rfl) ?_
  obtain ⟨r8, e9, h⟩ := bd1_s h
  refine kc_vi (rest := [.int r4]) (wr := [(aK, .inr (0, [.ref aN, .ref aK_begun, .int K_length_5])), (aK_begun, .inl (cI, 16, .inl K_begun_6))]) (wF := [(aN, .inr (1, [.ref aN_neighbours, .int N_posts])), (aN_neighbours, .inl (cI, 8, .inl N_neighbours)), (aK, .inr (0, [.ref aN, .ref aK_begun, .int K_length_5])), (aK_begun, .inl (cI, 16, .inl K_begun_6))]) ⟨hx, hb, hml, hown, hts⟩ (c_X1_width l dC dI cI cJ cZ cA aN aN_neighbours N_posts N_neighbours p0 r8 e9) (cwV 1 hts gX0_sizeOfLinked_X1_width rfl rfl rfl (by decide +kernel) ⟨Nat.le_of_ble_eq_true rfl, Nat.le_of_ble_eq_true rfl⟩) hK hP hD hS hA [0, 1] [2, 3] [2, 3, 0, 1] 0 rfl rfl rfl rfl (by decide) rfl rfl rfl rfl rfl rfl hl.1 rfl (Nat.le_of_ble_eq_true rfl) dX0_sizeOfLinked_16 ⟨Nat.zero_le _, Nat.zero_le _⟩ (fun H locs hP hD hS => ?_)
  refine lv_iadd hx hb dX0_sizeOfLinked_19 ?_
  obtain ⟨rfl, rfl, rfl⟩ := sj3 h
  exact hret _ _ _ _ _ rfl rfl hP hD hS dX0_sizeOfLinked_20
set_option maxHeartbeats 4000000 in
set_option maxRecDepth 100000 in
theorem c_X0_markLent (l : Launch) (dC : Nat → ClassId) (dI : Nat → Nat → Nat) (cI cJ cZ cA : ClassId) (aK aN aK_begun : Nat) (K_length : Int32) (K_begun : Nat → Int32) (p0 : Int32) (rr : Int32) (K_length_z : Int32) (K_begun_z : Nat → Int32) (h : fX0_markLent K_length K_begun p0 = some (rr, K_length_z, K_begun_z)) : Cti l yX0_markLent wsX0_markLent rmX0_markLent (dC, dI) (tyL cI cJ cZ cA) [(aK, .inr (0, [.ref aN, .ref aK_begun, .int K_length])), (aK_begun, .inl (cI, 16, .inl K_begun))] [(aK, .inr (0, [.ref aN, .ref aK_begun, .int K_length_z])), (aK_begun, .inl (cI, 16, .inl K_begun_z))] [.ref aK, .int p0] rr := by
  refine ct_int (ty := .int) (cc := cX0_markLent) (maxL := 2) (by decide) rfl (Nat.le_of_ble_eq_true rfl) ?_
  intro p e s m args below meth c A Q ls hx hb hml hown hts hA hK hP hD hS hl hret
  have hl : lv_has ls 2 [(0, .ref aK), (1, .int p0)] := hl
  unfold fX0_markLent at h
  refine lv_aload_n hx hb dX0_markLent_0 rfl (lv_at hl 0 rfl) ?_
  refine lv_bipush (v := 20) hx hb dX0_markLent_1 (by decide) ?_
  obtain ⟨K_length_1, K_begun_2, e3, h⟩ := bd2_s h
  refine kc_vv (rest := []) (wr := []) (wF := [(aK, .inr (0, [.ref aN, .ref aK_begun, .int K_length_1])), (aK_begun, .inl (cI, 16, .inl K_begun_2))]) ⟨hx, hb, hml, hown, hts⟩ (c_X0_leave l dC dI cI cJ cZ cA aK aN aK_begun K_length K_begun 20 K_length_1 K_begun_2 e3) (cwV 1 hts gX0_markLent_X0_leave rfl rfl rfl (by decide +kernel) ⟨Nat.le_of_ble_eq_true rfl, Nat.le_of_ble_eq_true rfl⟩) hK hP hD hS hA [0, 1] [] [0, 1] 0 rfl rfl rfl rfl (by decide) rfl rfl rfl rfl rfl rfl hl.1 rfl (Nat.le_of_ble_eq_true rfl) dX0_markLent_3 ⟨Nat.zero_le _, Nat.zero_le _⟩ (fun H locs hP hD hS => ?_)
  refine lv_iload_n hx hb dX0_markLent_6 rfl (lv_at hl 1 rfl) ?_
  obtain ⟨rfl, rfl, rfl⟩ := sj3 h
  exact hret _ _ _ _ _ rfl rfl hP hD hS dX0_markLent_7
set_option maxHeartbeats 4000000 in
set_option maxRecDepth 100000 in
theorem c_X0_markOfHub (l : Launch) (dC : Nat → ClassId) (dI : Nat → Nat → Nat) (cI cJ cZ cA : ClassId) (aK aN aK_begun : Nat) (K_length : Int32) (K_begun : Nat → Int32) (p0 : Int32) (rr : Int32) (K_length_z : Int32) (K_begun_z : Nat → Int32) (h : fX0_markOfHub K_length K_begun p0 = some (rr, K_length_z, K_begun_z)) : Cti l yX0_markOfHub wsX0_markOfHub rmX0_markOfHub (dC, dI) (tyL cI cJ cZ cA) [(aK, .inr (0, [.ref aN, .ref aK_begun, .int K_length])), (aK_begun, .inl (cI, 16, .inl K_begun))] [(aK, .inr (0, [.ref aN, .ref aK_begun, .int K_length_z])), (aK_begun, .inl (cI, 16, .inl K_begun_z))] [.ref aK, .int p0] rr := by
  refine ct_int (ty := .int) (cc := cX0_markOfHub) (maxL := 2) (by decide) rfl (Nat.le_of_ble_eq_true rfl) ?_
  intro p e s m args below meth c A Q ls hx hb hml hown hts hA hK hP hD hS hl hret
  have hl : lv_has ls 2 [(0, .ref aK), (1, .int p0)] := hl
  unfold fX0_markOfHub at h
  refine lv_aload_n hx hb dX0_markOfHub_0 rfl (lv_at hl 0 rfl) ?_
  refine lv_bipush (v := 21) hx hb dX0_markOfHub_1 (by decide) ?_
  obtain ⟨K_length_1, K_begun_2, e3, h⟩ := bd2_s h
  refine kc_vv (rest := []) (wr := []) (wF := [(aK, .inr (0, [.ref aN, .ref aK_begun, .int K_length_1])), (aK_begun, .inl (cI, 16, .inl K_begun_2))]) ⟨hx, hb, hml, hown, hts⟩ (c_X0_leave l dC dI cI cJ cZ cA aK aN aK_begun K_length K_begun 21 K_length_1 K_begun_2 e3) (cwV 1 hts gX0_markOfHub_X0_leave rfl rfl rfl (by decide +kernel) ⟨Nat.le_of_ble_eq_true rfl, Nat.le_of_ble_eq_true rfl⟩) hK hP hD hS hA [0, 1] [] [0, 1] 0 rfl rfl rfl rfl (by decide) rfl rfl rfl rfl rfl rfl hl.1 rfl (Nat.le_of_ble_eq_true rfl) dX0_markOfHub_3 ⟨Nat.zero_le _, Nat.zero_le _⟩ (fun H locs hP hD hS => ?_)
  refine lv_aload_n hx hb dX0_markOfHub_6 rfl (lv_at hl 0 rfl) ?_
  refine lv_iload_n hx hb dX0_markOfHub_7 rfl (lv_at hl 1 rfl) ?_
  obtain ⟨r4, K_length_5, K_begun_6, e7, h⟩ := bd3_s h
  refine kc_vi (rest := []) (wr := []) (wF := [(aK, .inr (0, [.ref aN, .ref aK_begun, .int K_length_5])), (aK_begun, .inl (cI, 16, .inl K_begun_6))]) ⟨hx, hb, hml, hown, hts⟩ (c_X0_markLent l dC dI cI cJ cZ cA aK aN aK_begun K_length_1 K_begun_2 p0 r4 K_length_5 K_begun_6 e7) (cwV 1 hts gX0_markOfHub_X0_markLent rfl rfl rfl (by decide +kernel) ⟨Nat.le_of_ble_eq_true rfl, Nat.le_of_ble_eq_true rfl⟩) hK hP hD hS hA [0, 1] [] [0, 1] 0 rfl rfl rfl rfl (by decide) rfl rfl rfl rfl rfl rfl hl.1 rfl (Nat.le_of_ble_eq_true rfl) dX0_markOfHub_8 ⟨Nat.zero_le _, Nat.zero_le _⟩ (fun H locs hP hD hS => ?_)
  refine lv_bipush (v := 100) hx hb dX0_markOfHub_11 (by decide) ?_
  refine lv_iadd hx hb dX0_markOfHub_13 ?_
  obtain ⟨rfl, rfl, rfl⟩ := sj3 h
  exact hret _ _ _ _ _ rfl rfl hP hD hS dX0_markOfHub_14
set_option maxHeartbeats 4000000 in
set_option maxRecDepth 100000 in
theorem c_X0_markOfA (l : Launch) (dC : Nat → ClassId) (dI : Nat → Nat → Nat) (cI cJ cZ cA : ClassId) (aN aN_neighbours aK aK_begun : Nat) (N_posts : Int32) (N_neighbours : Nat → Int32) (K_length : Int32) (K_begun : Nat → Int32) (p0 : Int32) (p1 : Int32) (rr : Int32) (K_length_z : Int32) (K_begun_z : Nat → Int32) (h : fX0_markOfA N_posts N_neighbours K_length K_begun p0 p1 = some (rr, K_length_z, K_begun_z)) : Cti l yX0_markOf wsX0_markOf rmX0_markOfA (dC, dI) (tyL cI cJ cZ cA) [(aN, .inr (1, [.ref aN_neighbours, .int N_posts])), (aN_neighbours, .inl (cI, 8, .inl N_neighbours)), (aK, .inr (0, [.ref aN, .ref aK_begun, .int K_length])), (aK_begun, .inl (cI, 16, .inl K_begun))] [(aN, .inr (1, [.ref aN_neighbours, .int N_posts])), (aN_neighbours, .inl (cI, 8, .inl N_neighbours)), (aK, .inr (0, [.ref aN, .ref aK_begun, .int K_length_z])), (aK_begun, .inl (cI, 16, .inl K_begun_z))] [.ref aK, .int p0, .int p1] rr := by
  refine ct_int (ty := .int) (cc := cX0_markOf) (maxL := 3) (by decide) rfl (Nat.le_of_ble_eq_true rfl) ?_
  intro p e s m args below meth c A Q ls hx hb hml hown hts hA hK hP hD hS hl hret
  have hl : lv_has ls 3 [(0, .ref aK), (1, .int p0), (2, .int p1)] := hl
  have k_0 := hts (.fieldLink RX0 15 "BeepNet$Asks" "net" "LBeepNet$Net;") (by decide +kernel)
  have hiX0 : ∀ w ∈ u_ws RX0 TX0 3, w ∈ wsX0_markOf := fun w hw => List.mem_cons_of_mem _ (List.mem_append_left _ (List.mem_append_right _ hw))
  unfold fX0_markOfA at h
  refine lv_iload_n hx hb dX0_markOf_0 rfl (lv_at hl 2 rfl) ?_
  refine lv_iconst (v := 3) hx hb dX0_markOf_1 (by decide) ?_
  refine lv_icmp_le (tgt := 7) hx hb dX0_markOf_2 (by decide) (fun c1 => ?_) (fun c1 => ?_)
  · have h := ift c1 h
    refine lv_aload_n hx hb dX0_markOf_7 rfl (lv_at hl 0 rfl) ?_
    refine ka_get (v := .ref aN) (C := RX0) (T := TX0) (Nf := 3) (ref := "BeepNet$Asks") hx hb hts hiX0 hown hK hP 2 rfl rfl 0 (by decide) k_0 rfl rfl dX0_markOf_8 ?_
    refine lv_iload_n hx hb dX0_markOf_11 rfl (lv_at hl 1 rfl) ?_
    obtain ⟨r2, e3, h⟩ := bd1_s h
    refine kc_vi (rest := []) (wr := [(aK, .inr (0, [.ref aN, .ref aK_begun, .int K_length])), (aK_begun, .inl (cI, 16, .inl K_begun))]) (wF := [(aN, .inr (1, [.ref aN_neighbours, .int N_posts])), (aN_neighbours, .inl (cI, 8, .inl N_neighbours)), (aK, .inr (0, [.ref aN, .ref aK_begun, .int K_length])), (aK_begun, .inl (cI, 16, .inl K_begun))]) ⟨hx, hb, hml, hown, hts⟩ (c_X1_kindOf l dC dI cI cJ cZ cA aN aN_neighbours N_posts N_neighbours p0 r2 e3) (cwV 1 hts gX0_markOf_X1_kindOf rfl rfl rfl (by decide +kernel) ⟨Nat.le_of_ble_eq_true rfl, Nat.le_of_ble_eq_true rfl⟩) hK hP hD hS hA [0, 1] [2, 3] [2, 3, 0, 1] 0 rfl rfl rfl rfl (by decide) rfl rfl rfl rfl rfl rfl hl.1 rfl (Nat.le_of_ble_eq_true rfl) dX0_markOf_12 ⟨Nat.zero_le _, Nat.zero_le _⟩ (fun H locs hP hD hS => ?_)
    by_cases c4 : r2 = 3
    · have h := ift c4 h
      refine lv_lookup (tgt := 40) hx hb dX0_markOf_15 (by decide) (by rw [c4] <;> rfl) (by decide) ?_
      refine lv_aload_n hx hb dX0_markOf_40 rfl (lv_at hl 0 rfl) ?_
      refine lv_iload_n hx hb dX0_markOf_41 rfl (lv_at hl 1 rfl) ?_
      obtain ⟨r5, K_length_6, K_begun_7, e8, h⟩ := bd3_s h
      refine kc_vi (rest := []) (wr := [(aN, .inr (1, [.ref aN_neighbours, .int N_posts])), (aN_neighbours, .inl (cI, 8, .inl N_neighbours))]) (wF := [(aN, .inr (1, [.ref aN_neighbours, .int N_posts])), (aN_neighbours, .inl (cI, 8, .inl N_neighbours)), (aK, .inr (0, [.ref aN, .ref aK_begun, .int K_length_6])), (aK_begun, .inl (cI, 16, .inl K_begun_7))]) ⟨hx, hb, hml, hown, hts⟩ (c_X0_markOfHub l dC dI cI cJ cZ cA aK aN aK_begun K_length K_begun p0 r5 K_length_6 K_begun_7 e8) (cwV 1 hts gX0_markOf_X0_markOfHub rfl rfl rfl (by decide +kernel) ⟨Nat.le_of_ble_eq_true rfl, Nat.le_of_ble_eq_true rfl⟩) hK hP hD hS hA [2, 3] [0, 1] [0, 1, 2, 3] 0 rfl rfl rfl rfl (by decide) rfl rfl rfl rfl rfl rfl hl.1 rfl (Nat.le_of_ble_eq_true rfl) dX0_markOf_42 ⟨Nat.zero_le _, Nat.zero_le _⟩ (fun H locs hP hD hS => ?_)
      obtain ⟨rfl, rfl, rfl⟩ := sj3 h
      exact hret _ _ _ _ _ rfl rfl hP hD hS dX0_markOf_45
    · have h := ifn c4 h
      by_cases c9 : r2 = 4
      · have h := ift c9 h
        refine lv_lookup (tgt := 46) hx hb dX0_markOf_15 (by decide) (by rw [c9] <;> rfl) (by decide) ?_
        refine lv_aload_n hx hb dX0_markOf_46 rfl (lv_at hl 0 rfl) ?_
        refine lv_iload_n hx hb dX0_markOf_47 rfl (lv_at hl 1 rfl) ?_
        refine lv_iload_n hx hb dX0_markOf_48 rfl (lv_at hl 2 rfl) ?_
        cases h
      · have h := ifn c9 h
        refine lv_lookup (tgt := 53) hx hb dX0_markOf_15 (by decide) (lk_out3_4 c4 c9) (by decide) ?_
        refine lv_aload_n hx hb dX0_markOf_53 rfl (lv_at hl 0 rfl) ?_
        refine lv_iload_n hx hb dX0_markOf_54 rfl (lv_at hl 1 rfl) ?_
        obtain ⟨r10, K_length_11, K_begun_12, e13, h⟩ := bd3_s h
        refine kc_vi (rest := []) (wr := [(aN, .inr (1, [.ref aN_neighbours, .int N_posts])), (aN_neighbours, .inl (cI, 8, .inl N_neighbours))]) (wF := [(aN, .inr (1, [.ref aN_neighbours, .int N_posts])), (aN_neighbours, .inl (cI, 8, .inl N_neighbours)), (aK, .inr (0, [.ref aN, .ref aK_begun, .int K_length_11])), (aK_begun, .inl (cI, 16, .inl K_begun_12))]) ⟨hx, hb, hml, hown, hts⟩ (c_X0_markLent l dC dI cI cJ cZ cA aK aN aK_begun K_length K_begun p0 r10 K_length_11 K_begun_12 e13) (cwV 1 hts gX0_markOf_X0_markLent rfl rfl rfl (by decide +kernel) ⟨Nat.le_of_ble_eq_true rfl, Nat.le_of_ble_eq_true rfl⟩) hK hP hD hS hA [2, 3] [0, 1] [0, 1, 2, 3] 0 rfl rfl rfl rfl (by decide) rfl rfl rfl rfl rfl rfl hl.1 rfl (Nat.le_of_ble_eq_true rfl) dX0_markOf_55 ⟨Nat.zero_le _, Nat.zero_le _⟩ (fun H locs hP hD hS => ?_)
        obtain ⟨rfl, rfl, rfl⟩ := sj3 h
        exact hret _ _ _ _ _ rfl rfl hP hD hS dX0_markOf_58
  · have h := ifn c1 h
    refine lv_iconst (v := 0) hx hb dX0_markOf_5 (by decide) ?_
    obtain ⟨rfl, rfl, rfl⟩ := sj3 h
    exact hret _ _ _ _ _ rfl rfl hP hD hS dX0_markOf_6
set_option maxHeartbeats 4000000 in
set_option maxRecDepth 100000 in
theorem c_X0_sizeOfHub (l : Launch) (dC : Nat → ClassId) (dI : Nat → Nat → Nat) (cI cJ cZ cA : ClassId) (aN aN_neighbours aK aK_begun : Nat) (N_posts : Int32) (N_neighbours : Nat → Int32) (K_length : Int32) (K_begun : Nat → Int32) (p0 : Int32) (p1 : Int32) (rr : Int32) (K_length_z : Int32) (K_begun_z : Nat → Int32) (h : fX0_sizeOfHub N_posts N_neighbours K_length K_begun p0 p1 = some (rr, K_length_z, K_begun_z)) : Cti l yX0_sizeOfHub wsX0_sizeOfHub rmX0_sizeOfHub (dC, dI) (tyL cI cJ cZ cA) [(aN, .inr (1, [.ref aN_neighbours, .int N_posts])), (aN_neighbours, .inl (cI, 8, .inl N_neighbours)), (aK, .inr (0, [.ref aN, .ref aK_begun, .int K_length])), (aK_begun, .inl (cI, 16, .inl K_begun))] [(aN, .inr (1, [.ref aN_neighbours, .int N_posts])), (aN_neighbours, .inl (cI, 8, .inl N_neighbours)), (aK, .inr (0, [.ref aN, .ref aK_begun, .int K_length_z])), (aK_begun, .inl (cI, 16, .inl K_begun_z))] [.ref aK, .int p0, .int p1] rr := by
  refine ct_int (ty := .int) (cc := cX0_sizeOfHub) (maxL := 4) (by decide) rfl (Nat.le_of_ble_eq_true rfl) ?_
  intro p e s m args below meth c A Q ls hx hb hml hown hts hA hK hP hD hS hl hret
  have hl : lv_has ls 4 [(0, .ref aK), (1, .int p0), (2, .int p1)] := hl
  unfold fX0_sizeOfHub at h
  refine lv_aload_n hx hb dX0_sizeOfHub_0 rfl (lv_at hl 0 rfl) ?_
  refine lv_bipush (v := 13) hx hb dX0_sizeOfHub_1 (by decide) ?_
  obtain ⟨K_length_1, K_begun_2, e3, h⟩ := bd2_s h
  refine kc_vv (rest := []) (wr := [(aN, .inr (1, [.ref aN_neighbours, .int N_posts])), (aN_neighbours, .inl (cI, 8, .inl N_neighbours))]) (wF := [(aN, .inr (1, [.ref aN_neighbours, .int N_posts])), (aN_neighbours, .inl (cI, 8, .inl N_neighbours)), (aK, .inr (0, [.ref aN, .ref aK_begun, .int K_length_1])), (aK_begun, .inl (cI, 16, .inl K_begun_2))]) ⟨hx, hb, hml, hown, hts⟩ (c_X0_leave l dC dI cI cJ cZ cA aK aN aK_begun K_length K_begun 13 K_length_1 K_begun_2 e3) (cwV 1 hts gX0_sizeOfHub_X0_leave rfl rfl rfl (by decide +kernel) ⟨Nat.le_of_ble_eq_true rfl, Nat.le_of_ble_eq_true rfl⟩) hK hP hD hS hA [2, 3] [0, 1] [0, 1, 2, 3] 0 rfl rfl rfl rfl (by decide) rfl rfl rfl rfl rfl rfl hl.1 rfl (Nat.le_of_ble_eq_true rfl) dX0_sizeOfHub_3 ⟨Nat.zero_le _, Nat.zero_le _⟩ (fun H locs hP hD hS => ?_)
  refine lv_aload_n hx hb dX0_sizeOfHub_6 rfl (lv_at hl 0 rfl) ?_
  refine lv_iload_n hx hb dX0_sizeOfHub_7 rfl (lv_at hl 1 rfl) ?_
  obtain ⟨r4, K_length_5, K_begun_6, e7, h⟩ := bd3_s h
  refine kc_vi (rest := []) (wr := []) (wF := [(aN, .inr (1, [.ref aN_neighbours, .int N_posts])), (aN_neighbours, .inl (cI, 8, .inl N_neighbours)), (aK, .inr (0, [.ref aN, .ref aK_begun, .int K_length_5])), (aK_begun, .inl (cI, 16, .inl K_begun_6))]) ⟨hx, hb, hml, hown, hts⟩ (c_X0_sizeOfLinked l dC dI cI cJ cZ cA aN aN_neighbours aK aK_begun N_posts N_neighbours K_length_1 K_begun_2 p0 r4 K_length_5 K_begun_6 e7) (cwV 1 hts gX0_sizeOfHub_X0_sizeOfLinked rfl rfl rfl (by decide +kernel) ⟨Nat.le_of_ble_eq_true rfl, Nat.le_of_ble_eq_true rfl⟩) hK hP hD hS hA [0, 1, 2, 3] [] [0, 1, 2, 3] 2 rfl rfl rfl rfl (by decide) rfl rfl rfl rfl rfl rfl hl.1 rfl (Nat.le_of_ble_eq_true rfl) dX0_sizeOfHub_8 ⟨Nat.zero_le _, Nat.zero_le _⟩ (fun H locs hP hD hS => ?_)
  refine lv_istore_n (lv' := [(3, .int r4), (0, .ref aK), (1, .int p0), (2, .int p1)]) hx hb dX0_sizeOfHub_11 rfl hl (by decide) rfl (fun ls hl => ?_)
  refine lv_iload_n hx hb dX0_sizeOfHub_12 rfl (lv_at hl 0 rfl) ?_
  refine lv_aload_n hx hb dX0_sizeOfHub_13 rfl (lv_at hl 1 rfl) ?_
  refine lv_iload_n hx hb dX0_sizeOfHub_14 rfl (lv_at hl 2 rfl) ?_
  refine lv_iload_n hx hb dX0_sizeOfHub_15 rfl (lv_at hl 3 rfl) ?_
  refine lv_iconst (v := 1) hx hb dX0_sizeOfHub_16 (by decide) ?_
  refine lv_iadd hx hb dX0_sizeOfHub_17 ?_
  obtain ⟨r8, K_length_9, K_begun_10, e11, h⟩ := bd3_s h
  refine kc_vi (rest := [.int r4]) (wr := []) (wF := [(aN, .inr (1, [.ref aN_neighbours, .int N_posts])), (aN_neighbours, .inl (cI, 8, .inl N_neighbours)), (aK, .inr (0, [.ref aN, .ref aK_begun, .int K_length_9])), (aK_begun, .inl (cI, 16, .inl K_begun_10))]) ⟨hx, hb, hml, hown, hts⟩ (c_X0_markOfA l dC dI cI cJ cZ cA aN aN_neighbours aK aK_begun N_posts N_neighbours K_length_5 K_begun_6 p0 (p1 + (1 : Int32)) r8 K_length_9 K_begun_10 e11) (cwV 2 hts gX0_sizeOfHub_X0_markOf rfl rfl rfl (by decide +kernel) ⟨Nat.le_of_ble_eq_true rfl, Nat.le_of_ble_eq_true rfl⟩) hK hP hD hS hA [0, 1, 2, 3] [] [0, 1, 2, 3] 2 rfl rfl rfl rfl (by decide) rfl rfl rfl rfl rfl rfl hl.1 rfl (Nat.le_of_ble_eq_true rfl) dX0_sizeOfHub_18 ⟨Nat.zero_le _, Nat.zero_le _⟩ (fun H locs hP hD hS => ?_)
  refine lv_iadd hx hb dX0_sizeOfHub_21 ?_
  obtain ⟨rfl, rfl, rfl⟩ := sj3 h
  exact hret _ _ _ _ _ rfl rfl hP hD hS dX0_sizeOfHub_22
set_option maxHeartbeats 4000000 in
set_option maxRecDepth 100000 in
theorem c_X0_sizeOfLeaf (l : Launch) (dC : Nat → ClassId) (dI : Nat → Nat → Nat) (cI cJ cZ cA : ClassId) (aN aN_neighbours aK aK_begun : Nat) (N_posts : Int32) (N_neighbours : Nat → Int32) (K_length : Int32) (K_begun : Nat → Int32) (p0 : Int32) (rr : Int32) (K_length_z : Int32) (K_begun_z : Nat → Int32) (h : fX0_sizeOfLeaf N_posts N_neighbours K_length K_begun p0 = some (rr, K_length_z, K_begun_z)) : Cti l yX0_sizeOfLeaf wsX0_sizeOfLeaf rmX0_sizeOfLeaf (dC, dI) (tyL cI cJ cZ cA) [(aN, .inr (1, [.ref aN_neighbours, .int N_posts])), (aN_neighbours, .inl (cI, 8, .inl N_neighbours)), (aK, .inr (0, [.ref aN, .ref aK_begun, .int K_length])), (aK_begun, .inl (cI, 16, .inl K_begun))] [(aN, .inr (1, [.ref aN_neighbours, .int N_posts])), (aN_neighbours, .inl (cI, 8, .inl N_neighbours)), (aK, .inr (0, [.ref aN, .ref aK_begun, .int K_length_z])), (aK_begun, .inl (cI, 16, .inl K_begun_z))] [.ref aK, .int p0] rr := by
  refine ct_int (ty := .int) (cc := cX0_sizeOfLeaf) (maxL := 2) (by decide) rfl (Nat.le_of_ble_eq_true rfl) ?_
  intro p e s m args below meth c A Q ls hx hb hml hown hts hA hK hP hD hS hl hret
  have hl : lv_has ls 2 [(0, .ref aK), (1, .int p0)] := hl
  unfold fX0_sizeOfLeaf at h
  refine lv_aload_n hx hb dX0_sizeOfLeaf_0 rfl (lv_at hl 0 rfl) ?_
  refine lv_bipush (v := 12) hx hb dX0_sizeOfLeaf_1 (by decide) ?_
  obtain ⟨K_length_1, K_begun_2, e3, h⟩ := bd2_s h
  refine kc_vv (rest := []) (wr := [(aN, .inr (1, [.ref aN_neighbours, .int N_posts])), (aN_neighbours, .inl (cI, 8, .inl N_neighbours))]) (wF := [(aN, .inr (1, [.ref aN_neighbours, .int N_posts])), (aN_neighbours, .inl (cI, 8, .inl N_neighbours)), (aK, .inr (0, [.ref aN, .ref aK_begun, .int K_length_1])), (aK_begun, .inl (cI, 16, .inl K_begun_2))]) ⟨hx, hb, hml, hown, hts⟩ (c_X0_leave l dC dI cI cJ cZ cA aK aN aK_begun K_length K_begun 12 K_length_1 K_begun_2 e3) (cwV 1 hts gX0_sizeOfLeaf_X0_leave rfl rfl rfl (by decide +kernel) ⟨Nat.le_of_ble_eq_true rfl, Nat.le_of_ble_eq_true rfl⟩) hK hP hD hS hA [2, 3] [0, 1] [0, 1, 2, 3] 0 rfl rfl rfl rfl (by decide) rfl rfl rfl rfl rfl rfl hl.1 rfl (Nat.le_of_ble_eq_true rfl) dX0_sizeOfLeaf_3 ⟨Nat.zero_le _, Nat.zero_le _⟩ (fun H locs hP hD hS => ?_)
  refine lv_iconst (v := 2) hx hb dX0_sizeOfLeaf_6 (by decide) ?_
  refine lv_aload_n hx hb dX0_sizeOfLeaf_7 rfl (lv_at hl 0 rfl) ?_
  refine lv_iload_n hx hb dX0_sizeOfLeaf_8 rfl (lv_at hl 1 rfl) ?_
  obtain ⟨r4, K_length_5, K_begun_6, e7, h⟩ := bd3_s h
  refine kc_vi (rest := [.int 2]) (wr := []) (wF := [(aN, .inr (1, [.ref aN_neighbours, .int N_posts])), (aN_neighbours, .inl (cI, 8, .inl N_neighbours)), (aK, .inr (0, [.ref aN, .ref aK_begun, .int K_length_5])), (aK_begun, .inl (cI, 16, .inl K_begun_6))]) ⟨hx, hb, hml, hown, hts⟩ (c_X0_sizeOfLinked l dC dI cI cJ cZ cA aN aN_neighbours aK aK_begun N_posts N_neighbours K_length_1 K_begun_2 p0 r4 K_length_5 K_begun_6 e7) (cwV 1 hts gX0_sizeOfLeaf_X0_sizeOfLinked rfl rfl rfl (by decide +kernel) ⟨Nat.le_of_ble_eq_true rfl, Nat.le_of_ble_eq_true rfl⟩) hK hP hD hS hA [0, 1, 2, 3] [] [0, 1, 2, 3] 2 rfl rfl rfl rfl (by decide) rfl rfl rfl rfl rfl rfl hl.1 rfl (Nat.le_of_ble_eq_true rfl) dX0_sizeOfLeaf_9 ⟨Nat.zero_le _, Nat.zero_le _⟩ (fun H locs hP hD hS => ?_)
  refine lv_imul hx hb dX0_sizeOfLeaf_12 ?_
  obtain ⟨rfl, rfl, rfl⟩ := sj3 h
  exact hret _ _ _ _ _ rfl rfl hP hD hS dX0_sizeOfLeaf_13
set_option maxHeartbeats 4000000 in
set_option maxRecDepth 100000 in
theorem c_X0_sizeOf (l : Launch) (dC : Nat → ClassId) (dI : Nat → Nat → Nat) (cI cJ cZ cA : ClassId) (aN aN_neighbours aK aK_begun : Nat) (N_posts : Int32) (N_neighbours : Nat → Int32) (K_length : Int32) (K_begun : Nat → Int32) (p0 : Int32) (p1 : Int32) (rr : Int32) (K_length_z : Int32) (K_begun_z : Nat → Int32) (h : fX0_sizeOf N_posts N_neighbours K_length K_begun p0 p1 = some (rr, K_length_z, K_begun_z)) : Cti l yX0_sizeOf wsX0_sizeOf rmX0_sizeOf (dC, dI) (tyL cI cJ cZ cA) [(aN, .inr (1, [.ref aN_neighbours, .int N_posts])), (aN_neighbours, .inl (cI, 8, .inl N_neighbours)), (aK, .inr (0, [.ref aN, .ref aK_begun, .int K_length])), (aK_begun, .inl (cI, 16, .inl K_begun))] [(aN, .inr (1, [.ref aN_neighbours, .int N_posts])), (aN_neighbours, .inl (cI, 8, .inl N_neighbours)), (aK, .inr (0, [.ref aN, .ref aK_begun, .int K_length_z])), (aK_begun, .inl (cI, 16, .inl K_begun_z))] [.ref aK, .int p0, .int p1] rr := by
  refine ct_int (ty := .int) (cc := cX0_sizeOf) (maxL := 3) (by decide) rfl (Nat.le_of_ble_eq_true rfl) ?_
  intro p e s m args below meth c A Q ls hx hb hml hown hts hA hK hP hD hS hl hret
  have hl : lv_has ls 3 [(0, .ref aK), (1, .int p0), (2, .int p1)] := hl
  have k_0 := hts (.fieldLink RX0 15 "BeepNet$Asks" "net" "LBeepNet$Net;") (by decide +kernel)
  have hiX0 : ∀ w ∈ u_ws RX0 TX0 3, w ∈ wsX0_sizeOf := fun w hw => List.mem_cons_of_mem _ (List.mem_append_left _ (List.mem_append_right _ hw))
  unfold fX0_sizeOf at h
  refine lv_iload_n hx hb dX0_sizeOf_0 rfl (lv_at hl 2 rfl) ?_
  refine lv_iconst (v := 3) hx hb dX0_sizeOf_1 (by decide) ?_
  refine lv_icmp_le (tgt := 7) hx hb dX0_sizeOf_2 (by decide) (fun c1 => ?_) (fun c1 => ?_)
  · have h := ift c1 h
    refine lv_aload_n hx hb dX0_sizeOf_7 rfl (lv_at hl 0 rfl) ?_
    refine ka_get (v := .ref aN) (C := RX0) (T := TX0) (Nf := 3) (ref := "BeepNet$Asks") hx hb hts hiX0 hown hK hP 2 rfl rfl 0 (by decide) k_0 rfl rfl dX0_sizeOf_8 ?_
    refine lv_iload_n hx hb dX0_sizeOf_11 rfl (lv_at hl 1 rfl) ?_
    obtain ⟨r2, e3, h⟩ := bd1_s h
    refine kc_vi (rest := []) (wr := [(aK, .inr (0, [.ref aN, .ref aK_begun, .int K_length])), (aK_begun, .inl (cI, 16, .inl K_begun))]) (wF := [(aN, .inr (1, [.ref aN_neighbours, .int N_posts])), (aN_neighbours, .inl (cI, 8, .inl N_neighbours)), (aK, .inr (0, [.ref aN, .ref aK_begun, .int K_length])), (aK_begun, .inl (cI, 16, .inl K_begun))]) ⟨hx, hb, hml, hown, hts⟩ (c_X1_kindOf l dC dI cI cJ cZ cA aN aN_neighbours N_posts N_neighbours p0 r2 e3) (cwV 1 hts gX0_sizeOf_X1_kindOf rfl rfl rfl (by decide +kernel) ⟨Nat.le_of_ble_eq_true rfl, Nat.le_of_ble_eq_true rfl⟩) hK hP hD hS hA [0, 1] [2, 3] [2, 3, 0, 1] 0 rfl rfl rfl rfl (by decide) rfl rfl rfl rfl rfl rfl hl.1 rfl (Nat.le_of_ble_eq_true rfl) dX0_sizeOf_12 ⟨Nat.zero_le _, Nat.zero_le _⟩ (fun H locs hP hD hS => ?_)
    by_cases c4 : r2 = 1
    · have h := ift c4 h
      refine lv_tableIn (tgt := 53) hx hb dX0_sizeOf_15 (by rw [c4]; decide) (by rw [c4]; decide) (by rw [c4]; rfl) (by decide) ?_
      refine lv_aload_n hx hb dX0_sizeOf_53 rfl (lv_at hl 0 rfl) ?_
      refine lv_iload_n hx hb dX0_sizeOf_54 rfl (lv_at hl 1 rfl) ?_
      obtain ⟨r5, K_length_6, K_begun_7, e8, h⟩ := bd3_s h
      refine kc_vi (rest := []) (wr := []) (wF := [(aN, .inr (1, [.ref aN_neighbours, .int N_posts])), (aN_neighbours, .inl (cI, 8, .inl N_neighbours)), (aK, .inr (0, [.ref aN, .ref aK_begun, .int K_length_6])), (aK_begun, .inl (cI, 16, .inl K_begun_7))]) ⟨hx, hb, hml, hown, hts⟩ (c_X0_sizeOfLinked l dC dI cI cJ cZ cA aN aN_neighbours aK aK_begun N_posts N_neighbours K_length K_begun p0 r5 K_length_6 K_begun_7 e8) (cwV 1 hts gX0_sizeOf_X0_sizeOfLinked rfl rfl rfl (by decide +kernel) ⟨Nat.le_of_ble_eq_true rfl, Nat.le_of_ble_eq_true rfl⟩) hK hP hD hS hA [0, 1, 2, 3] [] [0, 1, 2, 3] 2 rfl rfl rfl rfl (by decide) rfl rfl rfl rfl rfl rfl hl.1 rfl (Nat.le_of_ble_eq_true rfl) dX0_sizeOf_55 ⟨Nat.zero_le _, Nat.zero_le _⟩ (fun H locs hP hD hS => ?_)
      obtain ⟨rfl, rfl, rfl⟩ := sj3 h
      exact hret _ _ _ _ _ rfl rfl hP hD hS dX0_sizeOf_58
    · have h := ifn c4 h
      by_cases c9 : r2 = 2
      · have h := ift c9 h
        refine lv_tableIn (tgt := 40) hx hb dX0_sizeOf_15 (by rw [c9]; decide) (by rw [c9]; decide) (by rw [c9]; rfl) (by decide) ?_
        refine lv_aload_n hx hb dX0_sizeOf_40 rfl (lv_at hl 0 rfl) ?_
        refine lv_iload_n hx hb dX0_sizeOf_41 rfl (lv_at hl 1 rfl) ?_
        obtain ⟨r10, K_length_11, K_begun_12, e13, h⟩ := bd3_s h
        refine kc_vi (rest := []) (wr := []) (wF := [(aN, .inr (1, [.ref aN_neighbours, .int N_posts])), (aN_neighbours, .inl (cI, 8, .inl N_neighbours)), (aK, .inr (0, [.ref aN, .ref aK_begun, .int K_length_11])), (aK_begun, .inl (cI, 16, .inl K_begun_12))]) ⟨hx, hb, hml, hown, hts⟩ (c_X0_sizeOfLeaf l dC dI cI cJ cZ cA aN aN_neighbours aK aK_begun N_posts N_neighbours K_length K_begun p0 r10 K_length_11 K_begun_12 e13) (cwV 1 hts gX0_sizeOf_X0_sizeOfLeaf rfl rfl rfl (by decide +kernel) ⟨Nat.le_of_ble_eq_true rfl, Nat.le_of_ble_eq_true rfl⟩) hK hP hD hS hA [0, 1, 2, 3] [] [0, 1, 2, 3] 2 rfl rfl rfl rfl (by decide) rfl rfl rfl rfl rfl rfl hl.1 rfl (Nat.le_of_ble_eq_true rfl) dX0_sizeOf_42 ⟨Nat.zero_le _, Nat.zero_le _⟩ (fun H locs hP hD hS => ?_)
        obtain ⟨rfl, rfl, rfl⟩ := sj3 h
        exact hret _ _ _ _ _ rfl rfl hP hD hS dX0_sizeOf_45
      · have h := ifn c9 h
        by_cases c14 : r2 = 3
        · have h := ift c14 h
          refine lv_tableIn (tgt := 46) hx hb dX0_sizeOf_15 (by rw [c14]; decide) (by rw [c14]; decide) (by rw [c14]; rfl) (by decide) ?_
          refine lv_aload_n hx hb dX0_sizeOf_46 rfl (lv_at hl 0 rfl) ?_
          refine lv_iload_n hx hb dX0_sizeOf_47 rfl (lv_at hl 1 rfl) ?_
          refine lv_iload_n hx hb dX0_sizeOf_48 rfl (lv_at hl 2 rfl) ?_
          obtain ⟨r15, K_length_16, K_begun_17, e18, h⟩ := bd3_s h
          refine kc_vi (rest := []) (wr := []) (wF := [(aN, .inr (1, [.ref aN_neighbours, .int N_posts])), (aN_neighbours, .inl (cI, 8, .inl N_neighbours)), (aK, .inr (0, [.ref aN, .ref aK_begun, .int K_length_16])), (aK_begun, .inl (cI, 16, .inl K_begun_17))]) ⟨hx, hb, hml, hown, hts⟩ (c_X0_sizeOfHub l dC dI cI cJ cZ cA aN aN_neighbours aK aK_begun N_posts N_neighbours K_length K_begun p0 p1 r15 K_length_16 K_begun_17 e18) (cwV 2 hts gX0_sizeOf_X0_sizeOfHub rfl rfl rfl (by decide +kernel) ⟨Nat.le_of_ble_eq_true rfl, Nat.le_of_ble_eq_true rfl⟩) hK hP hD hS hA [0, 1, 2, 3] [] [0, 1, 2, 3] 2 rfl rfl rfl rfl (by decide) rfl rfl rfl rfl rfl rfl hl.1 rfl (Nat.le_of_ble_eq_true rfl) dX0_sizeOf_49 ⟨Nat.zero_le _, Nat.zero_le _⟩ (fun H locs hP hD hS => ?_)
          obtain ⟨rfl, rfl, rfl⟩ := sj3 h
          exact hret _ _ _ _ _ rfl rfl hP hD hS dX0_sizeOf_52
        · have h := ifn c14 h
          refine lv_tableOut (tgt := 59) hx hb dX0_sizeOf_15 (sw_out1_3 c4 c9 c14) (by decide) ?_
          refine lv_aload_n hx hb dX0_sizeOf_59 rfl (lv_at hl 0 rfl) ?_
          refine lv_iload_n hx hb dX0_sizeOf_60 rfl (lv_at hl 1 rfl) ?_
          obtain ⟨r19, K_length_20, K_begun_21, e22, h⟩ := bd3_s h
          refine kc_vi (rest := []) (wr := []) (wF := [(aN, .inr (1, [.ref aN_neighbours, .int N_posts])), (aN_neighbours, .inl (cI, 8, .inl N_neighbours)), (aK, .inr (0, [.ref aN, .ref aK_begun, .int K_length_20])), (aK_begun, .inl (cI, 16, .inl K_begun_21))]) ⟨hx, hb, hml, hown, hts⟩ (c_X0_sizeLent l dC dI cI cJ cZ cA aN aN_neighbours aK aK_begun N_posts N_neighbours K_length K_begun p0 r19 K_length_20 K_begun_21 e22) (cwV 1 hts gX0_sizeOf_X0_sizeLent rfl rfl rfl (by decide +kernel) ⟨Nat.le_of_ble_eq_true rfl, Nat.le_of_ble_eq_true rfl⟩) hK hP hD hS hA [0, 1, 2, 3] [] [0, 1, 2, 3] 2 rfl rfl rfl rfl (by decide) rfl rfl rfl rfl rfl rfl hl.1 rfl (Nat.le_of_ble_eq_true rfl) dX0_sizeOf_61 ⟨Nat.zero_le _, Nat.zero_le _⟩ (fun H locs hP hD hS => ?_)
          obtain ⟨rfl, rfl, rfl⟩ := sj3 h
          exact hret _ _ _ _ _ rfl rfl hP hD hS dX0_sizeOf_64
  · have h := ifn c1 h
    refine lv_iconst (v := 0) hx hb dX0_sizeOf_5 (by decide) ?_
    obtain ⟨rfl, rfl, rfl⟩ := sj3 h
    exact hret _ _ _ _ _ rfl rfl hP hD hS dX0_sizeOf_6
set_option maxHeartbeats 4000000 in
set_option maxRecDepth 100000 in
theorem c_X0_markOfLone (l : Launch) (dC : Nat → ClassId) (dI : Nat → Nat → Nat) (cI cJ cZ cA : ClassId) (aN aN_neighbours aK aK_begun : Nat) (N_posts : Int32) (N_neighbours : Nat → Int32) (K_length : Int32) (K_begun : Nat → Int32) (p0 : Int32) (p1 : Int32) (rr : Int32) (K_length_z : Int32) (K_begun_z : Nat → Int32) (h : fX0_markOfLone N_posts N_neighbours K_length K_begun p0 p1 = some (rr, K_length_z, K_begun_z)) : Cti l yX0_markOfLone wsX0_markOfLone rmX0_markOfLone (dC, dI) (tyL cI cJ cZ cA) [(aN, .inr (1, [.ref aN_neighbours, .int N_posts])), (aN_neighbours, .inl (cI, 8, .inl N_neighbours)), (aK, .inr (0, [.ref aN, .ref aK_begun, .int K_length])), (aK_begun, .inl (cI, 16, .inl K_begun))] [(aN, .inr (1, [.ref aN_neighbours, .int N_posts])), (aN_neighbours, .inl (cI, 8, .inl N_neighbours)), (aK, .inr (0, [.ref aN, .ref aK_begun, .int K_length_z])), (aK_begun, .inl (cI, 16, .inl K_begun_z))] [.ref aK, .int p0, .int p1] rr := by
  refine ct_int (ty := .int) (cc := cX0_markOfLone) (maxL := 4) (by decide) rfl (Nat.le_of_ble_eq_true rfl) ?_
  intro p e s m args below meth c A Q ls hx hb hml hown hts hA hK hP hD hS hl hret
  have hl : lv_has ls 4 [(0, .ref aK), (1, .int p0), (2, .int p1)] := hl
  unfold fX0_markOfLone at h
  refine lv_aload_n hx hb dX0_markOfLone_0 rfl (lv_at hl 0 rfl) ?_
  refine lv_bipush (v := 22) hx hb dX0_markOfLone_1 (by decide) ?_
  obtain ⟨K_length_1, K_begun_2, e3, h⟩ := bd2_s h
  refine kc_vv (rest := []) (wr := [(aN, .inr (1, [.ref aN_neighbours, .int N_posts])), (aN_neighbours, .inl (cI, 8, .inl N_neighbours))]) (wF := [(aN, .inr (1, [.ref aN_neighbours, .int N_posts])), (aN_neighbours, .inl (cI, 8, .inl N_neighbours)), (aK, .inr (0, [.ref aN, .ref aK_begun, .int K_length_1])), (aK_begun, .inl (cI, 16, .inl K_begun_2))]) ⟨hx, hb, hml, hown, hts⟩ (c_X0_leave l dC dI cI cJ cZ cA aK aN aK_begun K_length K_begun 22 K_length_1 K_begun_2 e3) (cwV 1 hts gX0_markOfLone_X0_leave rfl rfl rfl (by decide +kernel) ⟨Nat.le_of_ble_eq_true rfl, Nat.le_of_ble_eq_true rfl⟩) hK hP hD hS hA [2, 3] [0, 1] [0, 1, 2, 3] 0 rfl rfl rfl rfl (by decide) rfl rfl rfl rfl rfl rfl hl.1 rfl (Nat.le_of_ble_eq_true rfl) dX0_markOfLone_3 ⟨Nat.zero_le _, Nat.zero_le _⟩ (fun H locs hP hD hS => ?_)
  refine lv_aload_n hx hb dX0_markOfLone_6 rfl (lv_at hl 0 rfl) ?_
  refine lv_iload_n hx hb dX0_markOfLone_7 rfl (lv_at hl 1 rfl) ?_
  obtain ⟨r4, K_length_5, K_begun_6, e7, h⟩ := bd3_s h
  refine kc_vi (rest := []) (wr := [(aN, .inr (1, [.ref aN_neighbours, .int N_posts])), (aN_neighbours, .inl (cI, 8, .inl N_neighbours))]) (wF := [(aN, .inr (1, [.ref aN_neighbours, .int N_posts])), (aN_neighbours, .inl (cI, 8, .inl N_neighbours)), (aK, .inr (0, [.ref aN, .ref aK_begun, .int K_length_5])), (aK_begun, .inl (cI, 16, .inl K_begun_6))]) ⟨hx, hb, hml, hown, hts⟩ (c_X0_markLent l dC dI cI cJ cZ cA aK aN aK_begun K_length_1 K_begun_2 p0 r4 K_length_5 K_begun_6 e7) (cwV 1 hts gX0_markOfLone_X0_markLent rfl rfl rfl (by decide +kernel) ⟨Nat.le_of_ble_eq_true rfl, Nat.le_of_ble_eq_true rfl⟩) hK hP hD hS hA [2, 3] [0, 1] [0, 1, 2, 3] 0 rfl rfl rfl rfl (by decide) rfl rfl rfl rfl rfl rfl hl.1 rfl (Nat.le_of_ble_eq_true rfl) dX0_markOfLone_8 ⟨Nat.zero_le _, Nat.zero_le _⟩ (fun H locs hP hD hS => ?_)
  refine lv_istore_n (lv' := [(3, .int r4), (0, .ref aK), (1, .int p0), (2, .int p1)]) hx hb dX0_markOfLone_11 rfl hl (by decide) rfl (fun ls hl => ?_)
  refine lv_iload_n hx hb dX0_markOfLone_12 rfl (lv_at hl 0 rfl) ?_
  refine lv_aload_n hx hb dX0_markOfLone_13 rfl (lv_at hl 1 rfl) ?_
  refine lv_iload_n hx hb dX0_markOfLone_14 rfl (lv_at hl 2 rfl) ?_
  refine lv_iload_n hx hb dX0_markOfLone_15 rfl (lv_at hl 3 rfl) ?_
  refine lv_iconst (v := 1) hx hb dX0_markOfLone_16 (by decide) ?_
  refine lv_iadd hx hb dX0_markOfLone_17 ?_
  obtain ⟨r8, K_length_9, K_begun_10, e11, h⟩ := bd3_s h
  refine kc_vi (rest := [.int r4]) (wr := []) (wF := [(aN, .inr (1, [.ref aN_neighbours, .int N_posts])), (aN_neighbours, .inl (cI, 8, .inl N_neighbours)), (aK, .inr (0, [.ref aN, .ref aK_begun, .int K_length_9])), (aK_begun, .inl (cI, 16, .inl K_begun_10))]) ⟨hx, hb, hml, hown, hts⟩ (c_X0_sizeOf l dC dI cI cJ cZ cA aN aN_neighbours aK aK_begun N_posts N_neighbours K_length_5 K_begun_6 p0 (p1 + (1 : Int32)) r8 K_length_9 K_begun_10 e11) (cwV 2 hts gX0_markOfLone_X0_sizeOf rfl rfl rfl (by decide +kernel) ⟨Nat.le_of_ble_eq_true rfl, Nat.le_of_ble_eq_true rfl⟩) hK hP hD hS hA [0, 1, 2, 3] [] [0, 1, 2, 3] 2 rfl rfl rfl rfl (by decide) rfl rfl rfl rfl rfl rfl hl.1 rfl (Nat.le_of_ble_eq_true rfl) dX0_markOfLone_18 ⟨Nat.zero_le _, Nat.zero_le _⟩ (fun H locs hP hD hS => ?_)
  refine lv_iadd hx hb dX0_markOfLone_21 ?_
  obtain ⟨rfl, rfl, rfl⟩ := sj3 h
  exact hret _ _ _ _ _ rfl rfl hP hD hS dX0_markOfLone_22
set_option maxHeartbeats 4000000 in
set_option maxRecDepth 100000 in
theorem c_X0_markOf (l : Launch) (dC : Nat → ClassId) (dI : Nat → Nat → Nat) (cI cJ cZ cA : ClassId) (aN aN_neighbours aK aK_begun : Nat) (N_posts : Int32) (N_neighbours : Nat → Int32) (K_length : Int32) (K_begun : Nat → Int32) (p0 : Int32) (p1 : Int32) (rr : Int32) (K_length_z : Int32) (K_begun_z : Nat → Int32) (h : fX0_markOf N_posts N_neighbours K_length K_begun p0 p1 = some (rr, K_length_z, K_begun_z)) : Cti l yX0_markOf wsX0_markOf rmX0_markOf (dC, dI) (tyL cI cJ cZ cA) [(aN, .inr (1, [.ref aN_neighbours, .int N_posts])), (aN_neighbours, .inl (cI, 8, .inl N_neighbours)), (aK, .inr (0, [.ref aN, .ref aK_begun, .int K_length])), (aK_begun, .inl (cI, 16, .inl K_begun))] [(aN, .inr (1, [.ref aN_neighbours, .int N_posts])), (aN_neighbours, .inl (cI, 8, .inl N_neighbours)), (aK, .inr (0, [.ref aN, .ref aK_begun, .int K_length_z])), (aK_begun, .inl (cI, 16, .inl K_begun_z))] [.ref aK, .int p0, .int p1] rr := by
  refine ct_int (ty := .int) (cc := cX0_markOf) (maxL := 3) (by decide) rfl (Nat.le_of_ble_eq_true rfl) ?_
  intro p e s m args below meth c A Q ls hx hb hml hown hts hA hK hP hD hS hl hret
  have hl : lv_has ls 3 [(0, .ref aK), (1, .int p0), (2, .int p1)] := hl
  have k_0 := hts (.fieldLink RX0 15 "BeepNet$Asks" "net" "LBeepNet$Net;") (by decide +kernel)
  have hiX0 : ∀ w ∈ u_ws RX0 TX0 3, w ∈ wsX0_markOf := fun w hw => List.mem_cons_of_mem _ (List.mem_append_left _ (List.mem_append_right _ hw))
  unfold fX0_markOf at h
  refine lv_iload_n hx hb dX0_markOf_0 rfl (lv_at hl 2 rfl) ?_
  refine lv_iconst (v := 3) hx hb dX0_markOf_1 (by decide) ?_
  refine lv_icmp_le (tgt := 7) hx hb dX0_markOf_2 (by decide) (fun c1 => ?_) (fun c1 => ?_)
  · have h := ift c1 h
    refine lv_aload_n hx hb dX0_markOf_7 rfl (lv_at hl 0 rfl) ?_
    refine ka_get (v := .ref aN) (C := RX0) (T := TX0) (Nf := 3) (ref := "BeepNet$Asks") hx hb hts hiX0 hown hK hP 2 rfl rfl 0 (by decide) k_0 rfl rfl dX0_markOf_8 ?_
    refine lv_iload_n hx hb dX0_markOf_11 rfl (lv_at hl 1 rfl) ?_
    obtain ⟨r2, e3, h⟩ := bd1_s h
    refine kc_vi (rest := []) (wr := [(aK, .inr (0, [.ref aN, .ref aK_begun, .int K_length])), (aK_begun, .inl (cI, 16, .inl K_begun))]) (wF := [(aN, .inr (1, [.ref aN_neighbours, .int N_posts])), (aN_neighbours, .inl (cI, 8, .inl N_neighbours)), (aK, .inr (0, [.ref aN, .ref aK_begun, .int K_length])), (aK_begun, .inl (cI, 16, .inl K_begun))]) ⟨hx, hb, hml, hown, hts⟩ (c_X1_kindOf l dC dI cI cJ cZ cA aN aN_neighbours N_posts N_neighbours p0 r2 e3) (cwV 1 hts gX0_markOf_X1_kindOf rfl rfl rfl (by decide +kernel) ⟨Nat.le_of_ble_eq_true rfl, Nat.le_of_ble_eq_true rfl⟩) hK hP hD hS hA [0, 1] [2, 3] [2, 3, 0, 1] 0 rfl rfl rfl rfl (by decide) rfl rfl rfl rfl rfl rfl hl.1 rfl (Nat.le_of_ble_eq_true rfl) dX0_markOf_12 ⟨Nat.zero_le _, Nat.zero_le _⟩ (fun H locs hP hD hS => ?_)
    by_cases c4 : r2 = 3
    · have h := ift c4 h
      refine lv_lookup (tgt := 40) hx hb dX0_markOf_15 (by decide) (by rw [c4] <;> rfl) (by decide) ?_
      refine lv_aload_n hx hb dX0_markOf_40 rfl (lv_at hl 0 rfl) ?_
      refine lv_iload_n hx hb dX0_markOf_41 rfl (lv_at hl 1 rfl) ?_
      obtain ⟨r5, K_length_6, K_begun_7, e8, h⟩ := bd3_s h
      refine kc_vi (rest := []) (wr := [(aN, .inr (1, [.ref aN_neighbours, .int N_posts])), (aN_neighbours, .inl (cI, 8, .inl N_neighbours))]) (wF := [(aN, .inr (1, [.ref aN_neighbours, .int N_posts])), (aN_neighbours, .inl (cI, 8, .inl N_neighbours)), (aK, .inr (0, [.ref aN, .ref aK_begun, .int K_length_6])), (aK_begun, .inl (cI, 16, .inl K_begun_7))]) ⟨hx, hb, hml, hown, hts⟩ (c_X0_markOfHub l dC dI cI cJ cZ cA aK aN aK_begun K_length K_begun p0 r5 K_length_6 K_begun_7 e8) (cwV 1 hts gX0_markOf_X0_markOfHub rfl rfl rfl (by decide +kernel) ⟨Nat.le_of_ble_eq_true rfl, Nat.le_of_ble_eq_true rfl⟩) hK hP hD hS hA [2, 3] [0, 1] [0, 1, 2, 3] 0 rfl rfl rfl rfl (by decide) rfl rfl rfl rfl rfl rfl hl.1 rfl (Nat.le_of_ble_eq_true rfl) dX0_markOf_42 ⟨Nat.zero_le _, Nat.zero_le _⟩ (fun H locs hP hD hS => ?_)
      obtain ⟨rfl, rfl, rfl⟩ := sj3 h
      exact hret _ _ _ _ _ rfl rfl hP hD hS dX0_markOf_45
    · have h := ifn c4 h
      by_cases c9 : r2 = 4
      · have h := ift c9 h
        refine lv_lookup (tgt := 46) hx hb dX0_markOf_15 (by decide) (by rw [c9] <;> rfl) (by decide) ?_
        refine lv_aload_n hx hb dX0_markOf_46 rfl (lv_at hl 0 rfl) ?_
        refine lv_iload_n hx hb dX0_markOf_47 rfl (lv_at hl 1 rfl) ?_
        refine lv_iload_n hx hb dX0_markOf_48 rfl (lv_at hl 2 rfl) ?_
        obtain ⟨r10, K_length_11, K_begun_12, e13, h⟩ := bd3_s h
        refine kc_vi (rest := []) (wr := []) (wF := [(aN, .inr (1, [.ref aN_neighbours, .int N_posts])), (aN_neighbours, .inl (cI, 8, .inl N_neighbours)), (aK, .inr (0, [.ref aN, .ref aK_begun, .int K_length_11])), (aK_begun, .inl (cI, 16, .inl K_begun_12))]) ⟨hx, hb, hml, hown, hts⟩ (c_X0_markOfLone l dC dI cI cJ cZ cA aN aN_neighbours aK aK_begun N_posts N_neighbours K_length K_begun p0 p1 r10 K_length_11 K_begun_12 e13) (cwV 2 hts gX0_markOf_X0_markOfLone rfl rfl rfl (by decide +kernel) ⟨Nat.le_of_ble_eq_true rfl, Nat.le_of_ble_eq_true rfl⟩) hK hP hD hS hA [0, 1, 2, 3] [] [0, 1, 2, 3] 2 rfl rfl rfl rfl (by decide) rfl rfl rfl rfl rfl rfl hl.1 rfl (Nat.le_of_ble_eq_true rfl) dX0_markOf_49 ⟨Nat.zero_le _, Nat.zero_le _⟩ (fun H locs hP hD hS => ?_)
        obtain ⟨rfl, rfl, rfl⟩ := sj3 h
        exact hret _ _ _ _ _ rfl rfl hP hD hS dX0_markOf_52
      · have h := ifn c9 h
        refine lv_lookup (tgt := 53) hx hb dX0_markOf_15 (by decide) (lk_out3_4 c4 c9) (by decide) ?_
        refine lv_aload_n hx hb dX0_markOf_53 rfl (lv_at hl 0 rfl) ?_
        refine lv_iload_n hx hb dX0_markOf_54 rfl (lv_at hl 1 rfl) ?_
        obtain ⟨r14, K_length_15, K_begun_16, e17, h⟩ := bd3_s h
        refine kc_vi (rest := []) (wr := [(aN, .inr (1, [.ref aN_neighbours, .int N_posts])), (aN_neighbours, .inl (cI, 8, .inl N_neighbours))]) (wF := [(aN, .inr (1, [.ref aN_neighbours, .int N_posts])), (aN_neighbours, .inl (cI, 8, .inl N_neighbours)), (aK, .inr (0, [.ref aN, .ref aK_begun, .int K_length_15])), (aK_begun, .inl (cI, 16, .inl K_begun_16))]) ⟨hx, hb, hml, hown, hts⟩ (c_X0_markLent l dC dI cI cJ cZ cA aK aN aK_begun K_length K_begun p0 r14 K_length_15 K_begun_16 e17) (cwV 1 hts gX0_markOf_X0_markLent rfl rfl rfl (by decide +kernel) ⟨Nat.le_of_ble_eq_true rfl, Nat.le_of_ble_eq_true rfl⟩) hK hP hD hS hA [2, 3] [0, 1] [0, 1, 2, 3] 0 rfl rfl rfl rfl (by decide) rfl rfl rfl rfl rfl rfl hl.1 rfl (Nat.le_of_ble_eq_true rfl) dX0_markOf_55 ⟨Nat.zero_le _, Nat.zero_le _⟩ (fun H locs hP hD hS => ?_)
        obtain ⟨rfl, rfl, rfl⟩ := sj3 h
        exact hret _ _ _ _ _ rfl rfl hP hD hS dX0_markOf_58
  · have h := ifn c1 h
    refine lv_iconst (v := 0) hx hb dX0_markOf_5 (by decide) ?_
    obtain ⟨rfl, rfl, rfl⟩ := sj3 h
    exact hret _ _ _ _ _ rfl rfl hP hD hS dX0_markOf_6
set_option maxHeartbeats 4000000 in
set_option maxRecDepth 100000 in
theorem c_X0_answer (l : Launch) (dC : Nat → ClassId) (dI : Nat → Nat → Nat) (cI cJ cZ cA : ClassId) (aN aN_neighbours aK aK_begun : Nat) (N_posts : Int32) (N_neighbours : Nat → Int32) (K_length : Int32) (K_begun : Nat → Int32) (p0 : Int32) (p1 : Int32) (rr : Int32) (K_length_z : Int32) (K_begun_z : Nat → Int32) (h : fX0_answer N_posts N_neighbours K_length K_begun p0 p1 = some (rr, K_length_z, K_begun_z)) : Cti l yX0_answer wsX0_answer rmX0_answer (dC, dI) (tyL cI cJ cZ cA) [(aN, .inr (1, [.ref aN_neighbours, .int N_posts])), (aN_neighbours, .inl (cI, 8, .inl N_neighbours)), (aK, .inr (0, [.ref aN, .ref aK_begun, .int K_length])), (aK_begun, .inl (cI, 16, .inl K_begun))] [(aN, .inr (1, [.ref aN_neighbours, .int N_posts])), (aN_neighbours, .inl (cI, 8, .inl N_neighbours)), (aK, .inr (0, [.ref aN, .ref aK_begun, .int K_length_z])), (aK_begun, .inl (cI, 16, .inl K_begun_z))] [.ref aK, .int p0, .int p1] rr := by
  refine ct_int (ty := .int) (cc := cX0_answer) (maxL := 3) (by decide) rfl (Nat.le_of_ble_eq_true rfl) ?_
  intro p e s m args below meth c A Q ls hx hb hml hown hts hA hK hP hD hS hl hret
  have hl : lv_has ls 3 [(0, .ref aK), (1, .int p0), (2, .int p1)] := hl
  have k_0 := hts (.fieldLink RX0 19 "BeepNet$Asks" "length" "I") (by decide +kernel)
  have hiX0 : ∀ w ∈ u_ws RX0 TX0 3, w ∈ wsX0_answer := fun w hw => List.mem_cons_of_mem _ (List.mem_append_left _ (List.mem_append_right _ hw))
  unfold fX0_answer at h
  refine lv_aload_n hx hb dX0_answer_0 rfl (lv_at hl 0 rfl) ?_
  refine lv_iconst (v := 0) hx hb dX0_answer_1 (by decide) ?_
  refine ka_put (w1 := [(aN, .inr (1, [.ref aN_neighbours, .int N_posts])), (aN_neighbours, .inl (cI, 8, .inl N_neighbours)), (aK, .inr (0, [.ref aN, .ref aK_begun, .int 0])), (aK_begun, .inl (cI, 16, .inl K_begun))]) (C := RX0) (T := TX0) (Nf := 3) (ref := "BeepNet$Asks") hx hb hts hiX0 tyX0 tyX0_ok nmX0 hown hK hP hD hS 2 rfl rfl 2 (by decide) k_0 rfl rfl rfl (Nat.le_of_ble_eq_true rfl) dX0_answer_2 rfl (fun H locs hP hD hS => ?_)
  refine lv_iload_n hx hb dX0_answer_5 rfl (lv_at hl 2 rfl) ?_
  refine lv_if_ne (tgt := 18) hx hb dX0_answer_6 (by decide) (fun c1 => ?_) (fun c1 => ?_)
  · have h := ifn c1 h
    refine lv_aload_n hx hb dX0_answer_18 rfl (lv_at hl 0 rfl) ?_
    refine lv_iload_n hx hb dX0_answer_19 rfl (lv_at hl 1 rfl) ?_
    refine lv_iconst (v := 0) hx hb dX0_answer_20 (by decide) ?_
    obtain ⟨r2, K_length_3, K_begun_4, e5, h⟩ := bd3_s h
    refine kc_vi (rest := []) (wr := []) (wF := [(aN, .inr (1, [.ref aN_neighbours, .int N_posts])), (aN_neighbours, .inl (cI, 8, .inl N_neighbours)), (aK, .inr (0, [.ref aN, .ref aK_begun, .int K_length_3])), (aK_begun, .inl (cI, 16, .inl K_begun_4))]) ⟨hx, hb, hml, hown, hts⟩ (c_X0_markOf l dC dI cI cJ cZ cA aN aN_neighbours aK aK_begun N_posts N_neighbours 0 K_begun p0 0 r2 K_length_3 K_begun_4 e5) (cwV 2 hts gX0_answer_X0_markOf rfl rfl rfl (by decide +kernel) ⟨Nat.le_of_ble_eq_true rfl, Nat.le_of_ble_eq_true rfl⟩) hK hP hD hS hA [0, 1, 2, 3] [] [0, 1, 2, 3] 2 rfl rfl rfl rfl (by decide) rfl rfl rfl rfl rfl rfl hl.1 rfl (Nat.le_of_ble_eq_true rfl) dX0_answer_21 ⟨Nat.zero_le _, Nat.zero_le _⟩ (fun H locs hP hD hS => ?_)
    obtain ⟨rfl, rfl, rfl⟩ := sj3 h
    exact hret _ _ _ _ _ rfl rfl hP hD hS dX0_answer_24
  · have h := ift c1 h
    refine lv_aload_n hx hb dX0_answer_9 rfl (lv_at hl 0 rfl) ?_
    refine lv_iload_n hx hb dX0_answer_10 rfl (lv_at hl 1 rfl) ?_
    refine lv_iconst (v := 0) hx hb dX0_answer_11 (by decide) ?_
    obtain ⟨r6, K_length_7, K_begun_8, e9, h⟩ := bd3_s h
    refine kc_vi (rest := []) (wr := []) (wF := [(aN, .inr (1, [.ref aN_neighbours, .int N_posts])), (aN_neighbours, .inl (cI, 8, .inl N_neighbours)), (aK, .inr (0, [.ref aN, .ref aK_begun, .int K_length_7])), (aK_begun, .inl (cI, 16, .inl K_begun_8))]) ⟨hx, hb, hml, hown, hts⟩ (c_X0_sizeOf l dC dI cI cJ cZ cA aN aN_neighbours aK aK_begun N_posts N_neighbours 0 K_begun p0 0 r6 K_length_7 K_begun_8 e9) (cwV 2 hts gX0_answer_X0_sizeOf rfl rfl rfl (by decide +kernel) ⟨Nat.le_of_ble_eq_true rfl, Nat.le_of_ble_eq_true rfl⟩) hK hP hD hS hA [0, 1, 2, 3] [] [0, 1, 2, 3] 2 rfl rfl rfl rfl (by decide) rfl rfl rfl rfl rfl rfl hl.1 rfl (Nat.le_of_ble_eq_true rfl) dX0_answer_12 ⟨Nat.zero_le _, Nat.zero_le _⟩ (fun H locs hP hD hS => ?_)
    refine lv_goto (tgt := 24) hx hb dX0_answer_15 (by decide) ?_
    obtain ⟨rfl, rfl, rfl⟩ := sj3 h
    exact hret _ _ _ _ _ rfl rfl hP hD hS dX0_answer_24
