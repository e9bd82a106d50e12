set_option maxHeartbeats 4000000 in
set_option maxRecDepth 100000 in
theorem c_X3_drawFrom (l : Launch) (dC : Nat → ClassId) (dI : Nat → Nat → Nat) (cI cJ cZ cA : ClassId) (aQ aQ_heard aQ_fewest aQ_spent aQ_cases : Nat) (Q_heard : Nat → Int32) (Q_cases : Nat → Int64) (p0 : Int32) (p1 : Int32) (Q_cases_z : Nat → Int64) (h : fX3_drawFrom Q_heard Q_cases p0 p1 = some Q_cases_z) : Ctv l yX3_drawFrom wsX3_drawFrom rmX3_drawFrom (dC, dI) (tyL cI cJ cZ cA) [(aQ, .inr (3, [.ref aQ_heard, .ref aQ_fewest, .ref aQ_spent, .ref aQ_cases])), (aQ_heard, .inl (cI, 256, .inl Q_heard)), (aQ_cases, .inl (cJ, 256, .inr (.inl Q_cases)))] [(aQ, .inr (3, [.ref aQ_heard, .ref aQ_fewest, .ref aQ_spent, .ref aQ_cases])), (aQ_heard, .inl (cI, 256, .inl Q_heard)), (aQ_cases, .inl (cJ, 256, .inr (.inl Q_cases_z)))] [.ref aQ, .int p0, .int p1] := by
  refine ct_void (cc := cX3_drawFrom) (maxL := 6) (by decide) rfl (Nat.le_of_ble_eq_true rfl) ?_
  intro p e s m args below meth c A Q ls hx hb hml hown hts hA hK hP hD hS hl hret
  have hl : lv_has ls 6 [(0, .ref aQ), (1, .int p0), (2, .int p1)] := hl
  have k_0 := hts (.fieldLink RX3 21 "BeepNet$Search" "cases" "[J") (by decide +kernel)
  have k_1 := hts (.fieldLink RX3 9 "BeepNet$Search" "heard" "[I") (by decide +kernel)
  have hiX3 : ∀ w ∈ u_ws RX3 TX3 4, w ∈ wsX3_drawFrom := fun w hw => List.mem_cons_of_mem _ (List.mem_append_right _ hw)
  have hC24 : ∀ (n : Nat) (Q_cases : Nat → Int64) (x2 : Int32) (x3 : Int64) (x5 : Int32) (H : Heap) (locs : List Loc) (ls : Array Slot), fX3_drawFrom_c24 Q_heard n Q_cases x2 x3 x5 = some Q_cases_z → va_P (dC, dI) vwCl [(aQ, .inr (3, [.ref aQ_heard, .ref aQ_fewest, .ref aQ_spent, .ref aQ_cases])), (aQ_heard, .inl (cI, 256, .inl Q_heard)), (aQ_cases, .inl (cJ, 256, .inr (.inl Q_cases)))] H → va_D A [(aQ, .inr (3, [.ref aQ_heard, .ref aQ_fewest, .ref aQ_spent, .ref aQ_cases])), (aQ_heard, .inl (cI, 256, .inl Q_heard)), (aQ_cases, .inl (cJ, 256, .inr (.inl Q_cases)))] → va_S A s.heap H locs → lv_has ls 6 [(0, .ref aQ), (2, .int x2), (3, .long x3), (5, .int x5)] → W p l e rmX3_drawFrom s m args below meth c H locs 0 0 Q (F0 m 24 ls []) := by
    intro n
    induction n with
    | zero => intro Q_cases x2 x3 x5 H locs ls h; rw [fX3_drawFrom_c24] at h; cases h
    | succ n24 ih24 =>
      intro Q_cases x2 x3 x5 H locs ls h hP hD hS hl
      rw [fX3_drawFrom_c24] at h
      refine lv_iload hx hb dX3_drawFrom_24 (lv_at hl 3 rfl) ?_
      refine lv_if_le (tgt := 58) hx hb dX3_drawFrom_26 (by decide) (fun c2501 => ?_) (fun c2501 => ?_)
      · have h := ift c2501 h
        obtain rfl := sj1 h
        exact hret _ _ _ _ hP hD hS dX3_drawFrom_58
      · have h := ifn c2501 h
        refine lv_aload_n hx hb dX3_drawFrom_29 rfl (lv_at hl 0 rfl) ?_
        refine ka_get (v := .ref aQ_cases) (C := RX3) (T := TX3) (Nf := 4) (ref := "BeepNet$Search") hx hb hts hiX3 hown hK hP 0 rfl rfl 3 (by decide) k_0 rfl rfl dX3_drawFrom_30 ?_
        refine lv_iload_n hx hb dX3_drawFrom_33 rfl (lv_at hl 1 rfl) ?_
        refine lv_aload_n hx hb dX3_drawFrom_34 rfl (lv_at hl 0 rfl) ?_
        refine ka_get (v := .ref aQ_heard) (C := RX3) (T := TX3) (Nf := 4) (ref := "BeepNet$Search") hx hb hts hiX3 hown hK hP 0 rfl rfl 0 (by decide) k_1 rfl rfl dX3_drawFrom_35 ?_
        refine lv_iload hx hb dX3_drawFrom_38 (lv_at hl 3 rfl) ?_
        obtain ⟨v2502, ev2502, hn2503, h⟩ := ldx_s h
        refine ka_ild hx hb hK hP 1 0 ev2502 rfl rfl hn2503 dX3_drawFrom_40 ?_
        refine lv_ior hx hb dX3_drawFrom_41 ?_
        refine lv_dup2_11 hx hb dX3_drawFrom_42 rfl rfl ?_
        obtain ⟨v2504, ev2504, hn2505, h⟩ := ldx_s h
        refine ka_lld hx hb hK hP 2 1 ev2504 rfl rfl hn2505 dX3_drawFrom_43 ?_
        refine lv_lload_n hx hb dX3_drawFrom_44 rfl (lv_at hl 2 rfl) ?_
        refine lv_ladd hx hb dX3_drawFrom_45 ?_
        obtain ⟨g2506, eg2506, hn2507, h⟩ := stl_s h
        refine ka_lst (w1 := [(aQ, .inr (3, [.ref aQ_heard, .ref aQ_fewest, .ref aQ_spent, .ref aQ_cases])), (aQ_heard, .inl (cI, 256, .inl Q_heard)), (aQ_cases, .inl (cJ, 256, .inr (.inl g2506)))]) hx hb hK hP hD hS 2 1 eg2506 rfl rfl hn2507 dX3_drawFrom_46 rfl (fun H locs hP hD hS => ?_)
        refine lv_iload hx hb dX3_drawFrom_47 (lv_at hl 3 rfl) ?_
        refine lv_iconst (v := 1) hx hb dX3_drawFrom_49 (by decide) ?_
        refine lv_isub hx hb dX3_drawFrom_50 ?_
        refine lv_iload_n hx hb dX3_drawFrom_51 rfl (lv_at hl 1 rfl) ?_
        refine lv_iand hx hb dX3_drawFrom_52 ?_
        obtain ⟨v2508, ev2508, h⟩ := bnd_s h
        refine kn_i ev2508 ?_
        refine lv_istore (lv' := [(5, .int v2508), (0, .ref aQ), (2, .int x2), (3, .long x3)]) hx hb dX3_drawFrom_53 hl (by decide) rfl (fun ls hl => ?_)
        refine lv_goto (tgt := 24) hx hb dX3_drawFrom_55 (by decide) ?_
        exact ih24 g2506 x2 x3 v2508 _ _ _ h hP hD hS (lv_sub hl [1, 2, 3, 0] rfl)
  unfold fX3_drawFrom at h
  refine lv_aload_n hx hb dX3_drawFrom_0 rfl (lv_at hl 0 rfl) ?_
  refine ka_get (v := .ref aQ_cases) (C := RX3) (T := TX3) (Nf := 4) (ref := "BeepNet$Search") hx hb hts hiX3 hown hK hP 0 rfl rfl 3 (by decide) k_0 rfl rfl dX3_drawFrom_1 ?_
  refine lv_iload_n hx hb dX3_drawFrom_4 rfl (lv_at hl 2 rfl) ?_
  obtain ⟨v1, ev1, hn2, h⟩ := ldx_s h
  refine ka_lld hx hb hK hP 2 1 ev1 rfl rfl hn2 dX3_drawFrom_5 ?_
  refine lv_iload_n hx hb dX3_drawFrom_6 rfl (lv_at hl 1 rfl) ?_
  refine lv_iload_n hx hb dX3_drawFrom_7 rfl (lv_at hl 2 rfl) ?_
  obtain ⟨r3, e4, h⟩ := bd1_s h
  refine kc_si (rest := [.int p0, .long v1]) (wr := [(aQ, .inr (3, [.ref aQ_heard, .ref aQ_fewest, .ref aQ_spent, .ref aQ_cases])), (aQ_heard, .inl (cI, 256, .inl Q_heard)), (aQ_cases, .inl (cJ, 256, .inr (.inl Q_cases)))]) (wF := [(aQ, .inr (3, [.ref aQ_heard, .ref aQ_fewest, .ref aQ_spent, .ref aQ_cases])), (aQ_heard, .inl (cI, 256, .inl Q_heard)), (aQ_cases, .inl (cJ, 256, .inr (.inl Q_cases)))]) ⟨hx, hb, hml, hown, hts⟩ (c_J6_bitCount_0f7a4 l dC dI cI cJ cZ cA p1 r3 e4) (va_cwS 1 hts gX3_drawFrom_J6_bitCount_0f7a4 rfl rfl rfl (by decide +kernel) ⟨Nat.le_of_ble_eq_true rfl, Nat.le_of_ble_eq_true rfl⟩) hK hP hD hS hA [] [0, 1, 2] [0, 1, 2] rfl rfl rfl rfl (by decide) rfl rfl rfl hl.1 rfl (Nat.le_of_ble_eq_true rfl) dX3_drawFrom_8 ⟨Nat.zero_le _, Nat.zero_le _⟩ (fun H locs hP hD hS => ?_)
  refine lv_isub hx hb dX3_drawFrom_11 ?_
  refine lv_lshl hx hb dX3_drawFrom_12 rfl ?_
  obtain ⟨v5, ev5, h⟩ := bnd_s h
  refine kn_l ev5 ?_
  refine lv_lstore_n (lv' := [(3, .long v5), (0, .ref aQ), (1, .int p0), (2, .int p1)]) hx hb dX3_drawFrom_13 rfl hl (by decide) rfl (fun ls hl => ?_)
  refine lv_aload_n hx hb dX3_drawFrom_14 rfl (lv_at hl 1 rfl) ?_
  refine ka_get (v := .ref aQ_cases) (C := RX3) (T := TX3) (Nf := 4) (ref := "BeepNet$Search") hx hb hts hiX3 hown hK hP 0 rfl rfl 3 (by decide) k_0 rfl rfl dX3_drawFrom_15 ?_
  refine lv_iload_n hx hb dX3_drawFrom_18 rfl (lv_at hl 3 rfl) ?_
  refine lv_lload_n hx hb dX3_drawFrom_19 rfl (lv_at hl 0 rfl) ?_
  obtain ⟨g6, eg6, hn7, h⟩ := stl_s h
  refine ka_lst (w1 := [(aQ, .inr (3, [.ref aQ_heard, .ref aQ_fewest, .ref aQ_spent, .ref aQ_cases])), (aQ_heard, .inl (cI, 256, .inl Q_heard)), (aQ_cases, .inl (cJ, 256, .inr (.inl g6)))]) hx hb hK hP hD hS 2 1 eg6 rfl rfl hn7 dX3_drawFrom_20 rfl (fun H locs hP hD hS => ?_)
  refine lv_iload_n hx hb dX3_drawFrom_21 rfl (lv_at hl 3 rfl) ?_
  refine lv_istore (lv' := [(5, .int p1), (3, .long v5), (0, .ref aQ), (1, .int p0), (2, .int p1)]) hx hb dX3_drawFrom_22 hl (by decide) rfl (fun ls hl => ?_)
  exact hC24 FU g6 p1 v5 p1 _ _ _ h hP hD hS (lv_sub hl [2, 4, 1, 0] rfl)
set_option maxHeartbeats 4000000 in
set_option maxRecDepth 100000 in
theorem c_X3_drawOneRound (l : Launch) (dC : Nat → ClassId) (dI : Nat → Nat → Nat) (cI cJ cZ cA : ClassId) (aQ aQ_heard aQ_fewest aQ_spent aQ_cases : Nat) (Q_heard : Nat → Int32) (Q_cases : Nat → Int64) (p0 : Int32) (p1 : Int32) (p2 : Int32) (Q_cases_z : Nat → Int64) (h : fX3_drawOneRound Q_heard Q_cases p0 p1 p2 = some Q_cases_z) : Ctv l yX3_drawOneRound wsX3_drawOneRound rmX3_drawOneRound (dC, dI) (tyL cI cJ cZ cA) [(aQ, .inr (3, [.ref aQ_heard, .ref aQ_fewest, .ref aQ_spent, .ref aQ_cases])), (aQ_heard, .inl (cI, 256, .inl Q_heard)), (aQ_cases, .inl (cJ, 256, .inr (.inl Q_cases)))] [(aQ, .inr (3, [.ref aQ_heard, .ref aQ_fewest, .ref aQ_spent, .ref aQ_cases])), (aQ_heard, .inl (cI, 256, .inl Q_heard)), (aQ_cases, .inl (cJ, 256, .inr (.inl Q_cases_z)))] [.ref aQ, .int p0, .int p1, .int p2] := by
  refine ct_void (cc := cX3_drawOneRound) (maxL := 5) (by decide) rfl (Nat.le_of_ble_eq_true rfl) ?_
  intro p e s m args below meth c A Q ls hx hb hml hown hts hA hK hP hD hS hl hret
  have hl : lv_has ls 5 [(0, .ref aQ), (1, .int p0), (2, .int p1), (3, .int p2)] := hl
  have k_0 := hts (.fieldLink RX3 21 "BeepNet$Search" "cases" "[J") (by decide +kernel)
  have hiX3 : ∀ w ∈ u_ws RX3 TX3 4, w ∈ wsX3_drawOneRound := fun w hw => List.mem_cons_of_mem _ (List.mem_append_right _ hw)
  have hC15 : ∀ (n : Nat) (Q_cases : Nat → Int64) (x1 : Int32) (x2 : Int32) (x4 : Int32) (H : Heap) (locs : List Loc) (ls : Array Slot), fX3_drawOneRound_c15 Q_heard n Q_cases x1 x2 x4 = some Q_cases_z → va_P (dC, dI) vwCl [(aQ, .inr (3, [.ref aQ_heard, .ref aQ_fewest, .ref aQ_spent, .ref aQ_cases])), (aQ_heard, .inl (cI, 256, .inl Q_heard)), (aQ_cases, .inl (cJ, 256, .inr (.inl Q_cases)))] H → va_D A [(aQ, .inr (3, [.ref aQ_heard, .ref aQ_fewest, .ref aQ_spent, .ref aQ_cases])), (aQ_heard, .inl (cI, 256, .inl Q_heard)), (aQ_cases, .inl (cJ, 256, .inr (.inl Q_cases)))] → va_S A s.heap H locs → lv_has ls 5 [(0, .ref aQ), (1, .int x1), (2, .int x2), (4, .int x4)] → W p l e rmX3_drawOneRound s m args below meth c H locs 0 0 Q (F0 m 15 ls []) := by
    intro n
    induction n with
    | zero => intro Q_cases x1 x2 x4 H locs ls h; rw [fX3_drawOneRound_c15] at h; cases h
    | succ n15 ih15 =>
      intro Q_cases x1 x2 x4 H locs ls h hP hD hS hl
      rw [fX3_drawOneRound_c15] at h
      refine lv_iload hx hb dX3_drawOneRound_15 (lv_at hl 3 rfl) ?_
      refine lv_iload_n hx hb dX3_drawOneRound_17 rfl (lv_at hl 2 rfl) ?_
      refine lv_icmp_lt (tgt := 46) hx hb dX3_drawOneRound_18 (by decide) (fun c1601 => ?_) (fun c1601 => ?_)
      · have h := ift c1601 h
        obtain rfl := sj1 h
        exact hret _ _ _ _ hP hD hS dX3_drawOneRound_46
      · have h := ifn c1601 h
        refine lv_aload_n hx hb dX3_drawOneRound_21 rfl (lv_at hl 0 rfl) ?_
        refine ka_get (v := .ref aQ_cases) (C := RX3) (T := TX3) (Nf := 4) (ref := "BeepNet$Search") hx hb hts hiX3 hown hK hP 0 rfl rfl 3 (by decide) k_0 rfl rfl dX3_drawOneRound_22 ?_
        refine lv_iload hx hb dX3_drawOneRound_25 (lv_at hl 3 rfl) ?_
        obtain ⟨v1602, ev1602, hn1603, h⟩ := ldx_s h
        refine ka_lld hx hb hK hP 2 1 ev1602 rfl rfl hn1603 dX3_drawOneRound_27 ?_
        refine lv_lconst (v := 0) hx hb dX3_drawOneRound_28 (by decide) ?_
        refine W.lcmp hx hb dX3_drawOneRound_29 ?_
        refine lv_if_eq (tgt := 40) hx hb dX3_drawOneRound_30 (by decide) (fun c1604 => ?_) (fun c1604 => ?_)
        · have h := ift c1604 h
          refine lv_iinc (v := x4 + (-1)) (lv' := [(4, .int (x4 + (-1))), (0, .ref aQ), (1, .int x1), (2, .int x2)]) hx hb dX3_drawOneRound_40 hl (k := 3) rfl rfl (by decide) rfl (fun ls hl => ?_)
          refine lv_goto (tgt := 15) hx hb dX3_drawOneRound_43 (by decide) ?_
          exact ih15 Q_cases x1 x2 (x4 + (-1)) _ _ _ h hP hD hS (lv_sub hl [1, 2, 3, 0] rfl)
        · have h := ifn c1604 h
          refine lv_aload_n hx hb dX3_drawOneRound_33 rfl (lv_at hl 0 rfl) ?_
          refine lv_iload_n hx hb dX3_drawOneRound_34 rfl (lv_at hl 1 rfl) ?_
          refine lv_iload hx hb dX3_drawOneRound_35 (lv_at hl 3 rfl) ?_
          obtain ⟨Q_cases_1605, e1606, h⟩ := bd1_s h
          refine kc_vv (rest := []) (wr := []) (wF := [(aQ, .inr (3, [.ref aQ_heard, .ref aQ_fewest, .ref aQ_spent, .ref aQ_cases])), (aQ_heard, .inl (cI, 256, .inl Q_heard)), (aQ_cases, .inl (cJ, 256, .inr (.inl Q_cases_1605)))]) ⟨hx, hb, hml, hown, hts⟩ (c_X3_drawFrom l dC dI cI cJ cZ cA aQ aQ_heard aQ_fewest aQ_spent aQ_cases Q_heard Q_cases x1 x4 Q_cases_1605 e1606) (cwV 2 hts gX3_drawOneRound_X3_drawFrom rfl rfl rfl (by decide +kernel) ⟨Nat.le_of_ble_eq_true rfl, Nat.le_of_ble_eq_true rfl⟩) hK hP hD hS hA [0, 1, 2] [] [0, 1, 2] 0 rfl rfl rfl rfl (by decide) rfl rfl rfl rfl rfl rfl hl.1 rfl (Nat.le_of_ble_eq_true rfl) dX3_drawOneRound_37 ⟨Nat.zero_le _, Nat.zero_le _⟩ (fun H locs hP hD hS => ?_)
          refine lv_iinc (v := x4 + (-1)) (lv' := [(4, .int (x4 + (-1))), (0, .ref aQ), (1, .int x1), (2, .int x2)]) hx hb dX3_drawOneRound_40 hl (k := 3) rfl rfl (by decide) rfl (fun ls hl => ?_)
          refine lv_goto (tgt := 15) hx hb dX3_drawOneRound_43 (by decide) ?_
          exact ih15 Q_cases_1605 x1 x2 (x4 + (-1)) _ _ _ h hP hD hS (lv_sub hl [1, 2, 3, 0] rfl)
  unfold fX3_drawOneRound at h
  refine lv_aload_n hx hb dX3_drawOneRound_0 rfl (lv_at hl 0 rfl) ?_
  refine ka_get (v := .ref aQ_cases) (C := RX3) (T := TX3) (Nf := 4) (ref := "BeepNet$Search") hx hb hts hiX3 hown hK hP 0 rfl rfl 3 (by decide) k_0 rfl rfl dX3_drawOneRound_1 ?_
  refine lv_iload_n hx hb dX3_drawOneRound_4 rfl (lv_at hl 3 rfl) ?_
  refine lv_dup2_11 hx hb dX3_drawOneRound_5 rfl rfl ?_
  obtain ⟨v1, ev1, hn2, h⟩ := ldx_s h
  refine ka_lld hx hb hK hP 2 1 ev1 rfl rfl hn2 dX3_drawOneRound_6 ?_
  refine lv_iload_n hx hb dX3_drawOneRound_7 rfl (lv_at hl 1 rfl) ?_
  refine lv_lshl hx hb dX3_drawOneRound_8 rfl ?_
  obtain ⟨g3, eg3, hn4, h⟩ := stl_s h
  refine ka_lst (w1 := [(aQ, .inr (3, [.ref aQ_heard, .ref aQ_fewest, .ref aQ_spent, .ref aQ_cases])), (aQ_heard, .inl (cI, 256, .inl Q_heard)), (aQ_cases, .inl (cJ, 256, .inr (.inl g3)))]) hx hb hK hP hD hS 2 1 eg3 rfl rfl hn4 dX3_drawOneRound_9 rfl (fun H locs hP hD hS => ?_)
  refine lv_iload_n hx hb dX3_drawOneRound_10 rfl (lv_at hl 3 rfl) ?_
  refine lv_iconst (v := 1) hx hb dX3_drawOneRound_11 (by decide) ?_
  refine lv_isub hx hb dX3_drawOneRound_12 ?_
  refine lv_istore (lv' := [(4, .int (p2 - (1 : Int32))), (0, .ref aQ), (1, .int p0), (2, .int p1), (3, .int p2)]) hx hb dX3_drawOneRound_13 hl (by decide) rfl (fun ls hl => ?_)
  exact hC15 FU g3 p0 p1 (p2 - (1 : Int32)) _ _ _ h hP hD hS (lv_sub hl [1, 2, 3, 0] rfl)
set_option maxHeartbeats 4000000 in
set_option maxRecDepth 100000 in
theorem c_X3_casesThatReachAll (l : Launch) (dC : Nat → ClassId) (dI : Nat → Nat → Nat) (cI cJ cZ cA : ClassId) (aN aN_neighbours aQ aQ_heard aQ_fewest aQ_spent aQ_cases : Nat) (N_posts : Int32) (N_neighbours : Nat → Int32) (Q_heard : Nat → Int32) (Q_cases : Nat → Int64) (p1 : Int32) (p2 : Int32) (rr : Int64) (Q_cases_z : Nat → Int64) (h : fX3_casesThatReachAll N_posts N_neighbours Q_heard Q_cases p1 p2 = some (rr, Q_cases_z)) : Ctl l yX3_casesThatReachAll wsX3_casesThatReachAll rmX3_casesThatReachAll (dC, dI) (tyL cI cJ cZ cA) [(aN, .inr (1, [.ref aN_neighbours, .int N_posts])), (aN_neighbours, .inl (cI, 8, .inl N_neighbours)), (aQ, .inr (3, [.ref aQ_heard, .ref aQ_fewest, .ref aQ_spent, .ref aQ_cases])), (aQ_heard, .inl (cI, 256, .inl Q_heard)), (aQ_cases, .inl (cJ, 256, .inr (.inl Q_cases)))] [(aN, .inr (1, [.ref aN_neighbours, .int N_posts])), (aN_neighbours, .inl (cI, 8, .inl N_neighbours)), (aQ, .inr (3, [.ref aQ_heard, .ref aQ_fewest, .ref aQ_spent, .ref aQ_cases])), (aQ_heard, .inl (cI, 256, .inl Q_heard)), (aQ_cases, .inl (cJ, 256, .inr (.inl Q_cases_z)))] [.ref aQ, .ref aN, .int p1, .int p2] rr := by
  refine ct_long (cc := cX3_casesThatReachAll) (maxL := 7) (by decide) rfl (Nat.le_of_ble_eq_true rfl) ?_
  intro p e s m args below meth c A Q ls hx hb hml hown hts hA hK hP hD hS hl hret
  have hl : lv_has ls 7 [(0, .ref aQ), (1, .ref aN), (2, .int p1), (3, .int p2)] := hl
  have k_0 := hts (.fieldLink RX3 21 "BeepNet$Search" "cases" "[J") (by decide +kernel)
  have hiX3 : ∀ w ∈ u_ws RX3 TX3 4, w ∈ wsX3_casesThatReachAll := fun w hw => List.mem_cons_of_mem _ (List.mem_append_left _ (List.mem_append_right _ hw))
  have hC32 : ∀ (n : Nat) (Q_cases : Nat → Int64) (x3 : Int32) (x4 : Int32) (x5 : Int32) (x6 : Int32) (H : Heap) (locs : List Loc) (ls : Array Slot), fX3_casesThatReachAll_c32 N_posts N_neighbours Q_heard n Q_cases x3 x4 x5 x6 = some (rr, Q_cases_z) → va_P (dC, dI) vwCl [(aN, .inr (1, [.ref aN_neighbours, .int N_posts])), (aN_neighbours, .inl (cI, 8, .inl N_neighbours)), (aQ, .inr (3, [.ref aQ_heard, .ref aQ_fewest, .ref aQ_spent, .ref aQ_cases])), (aQ_heard, .inl (cI, 256, .inl Q_heard)), (aQ_cases, .inl (cJ, 256, .inr (.inl Q_cases)))] H → va_D A [(aN, .inr (1, [.ref aN_neighbours, .int N_posts])), (aN_neighbours, .inl (cI, 8, .inl N_neighbours)), (aQ, .inr (3, [.ref aQ_heard, .ref aQ_fewest, .ref aQ_spent, .ref aQ_cases])), (aQ_heard, .inl (cI, 256, .inl Q_heard)), (aQ_cases, .inl (cJ, 256, .inr (.inl Q_cases)))] → va_S A s.heap H locs → lv_has ls 7 [(0, .ref aQ), (1, .ref aN), (3, .int x3), (4, .int x4), (5, .int x5), (6, .int x6)] → W p l e rmX3_casesThatReachAll s m args below meth c H locs 0 0 Q (F0 m 32 ls []) := by
    intro n
    induction n with
    | zero => intro Q_cases x3 x4 x5 x6 H locs ls h; rw [fX3_casesThatReachAll_c32] at h; cases h
    | succ n32 ih32 =>
      intro Q_cases x3 x4 x5 x6 H locs ls h hP hD hS hl
      rw [fX3_casesThatReachAll_c32] at h
      refine lv_iload hx hb dX3_casesThatReachAll_32 (lv_at hl 5 rfl) ?_
      refine lv_iload_n hx hb dX3_casesThatReachAll_34 rfl (lv_at hl 2 rfl) ?_
      refine lv_icmp_ge (tgt := 56) hx hb dX3_casesThatReachAll_35 (by decide) (fun c3301 => ?_) (fun c3301 => ?_)
      · have h := ift c3301 h
        refine lv_aload_n hx hb dX3_casesThatReachAll_56 rfl (lv_at hl 0 rfl) ?_
        refine ka_get (v := .ref aQ_cases) (C := RX3) (T := TX3) (Nf := 4) (ref := "BeepNet$Search") hx hb hts hiX3 hown hK hP 2 rfl rfl 3 (by decide) k_0 rfl rfl dX3_casesThatReachAll_57 ?_
        refine lv_iload hx hb dX3_casesThatReachAll_60 (lv_at hl 4 rfl) ?_
        obtain ⟨v3302, ev3302, hn3303, h⟩ := ldx_s h
        refine ka_lld hx hb hK hP 4 1 ev3302 rfl rfl hn3303 dX3_casesThatReachAll_62 ?_
        obtain ⟨rfl, rfl⟩ := sj2 h
        exact hret _ _ _ _ _ rfl hP hD hS dX3_casesThatReachAll_63
      · have h := ifn c3301 h
        refine lv_aload_n hx hb dX3_casesThatReachAll_38 rfl (lv_at hl 0 rfl) ?_
        refine lv_aload_n hx hb dX3_casesThatReachAll_39 rfl (lv_at hl 1 rfl) ?_
        obtain ⟨r3304, e3305, h⟩ := bd1_s h
        refine kc_vi (rest := [.ref aQ]) (wr := [(aN_neighbours, .inl (cI, 8, .inl N_neighbours)), (aQ, .inr (3, [.ref aQ_heard, .ref aQ_fewest, .ref aQ_spent, .ref aQ_cases])), (aQ_heard, .inl (cI, 256, .inl Q_heard)), (aQ_cases, .inl (cJ, 256, .inr (.inl Q_cases)))]) (wF := [(aN, .inr (1, [.ref aN_neighbours, .int N_posts])), (aN_neighbours, .inl (cI, 8, .inl N_neighbours)), (aQ, .inr (3, [.ref aQ_heard, .ref aQ_fewest, .ref aQ_spent, .ref aQ_cases])), (aQ_heard, .inl (cI, 256, .inl Q_heard)), (aQ_cases, .inl (cJ, 256, .inr (.inl Q_cases)))]) ⟨hx, hb, hml, hown, hts⟩ (c_X1_size l dC dI cI cJ cZ cA aN aN_neighbours N_posts r3304 e3305) (cwV 0 hts gX3_casesThatReachAll_X1_size rfl rfl rfl (by decide +kernel) ⟨Nat.le_of_ble_eq_true rfl, Nat.le_of_ble_eq_true rfl⟩) hK hP hD hS hA [0] [1, 2, 3, 4] [4, 0, 1, 2, 3] 0 rfl rfl rfl rfl (by decide) rfl rfl rfl rfl rfl rfl hl.1 rfl (Nat.le_of_ble_eq_true rfl) dX3_casesThatReachAll_40 ⟨Nat.zero_le _, Nat.zero_le _⟩ (fun H locs hP hD hS => ?_)
        refine lv_iload hx hb dX3_casesThatReachAll_43 (lv_at hl 3 rfl) ?_
        refine lv_iload hx hb dX3_casesThatReachAll_45 (lv_at hl 4 rfl) ?_
        obtain ⟨Q_cases_3306, e3307, h⟩ := bd1_s h
        refine kc_vv (rest := []) (wr := [(aN, .inr (1, [.ref aN_neighbours, .int N_posts])), (aN_neighbours, .inl (cI, 8, .inl N_neighbours))]) (wF := [(aN, .inr (1, [.ref aN_neighbours, .int N_posts])), (aN_neighbours, .inl (cI, 8, .inl N_neighbours)), (aQ, .inr (3, [.ref aQ_heard, .ref aQ_fewest, .ref aQ_spent, .ref aQ_cases])), (aQ_heard, .inl (cI, 256, .inl Q_heard)), (aQ_cases, .inl (cJ, 256, .inr (.inl Q_cases_3306)))]) ⟨hx, hb, hml, hown, hts⟩ (c_X3_drawOneRound l dC dI cI cJ cZ cA aQ aQ_heard aQ_fewest aQ_spent aQ_cases Q_heard Q_cases r3304 x4 x5 Q_cases_3306 e3307) (cwV 3 hts gX3_casesThatReachAll_X3_drawOneRound rfl rfl rfl (by decide +kernel) ⟨Nat.le_of_ble_eq_true rfl, Nat.le_of_ble_eq_true rfl⟩) hK hP hD hS hA [2, 3, 4] [0, 1] [0, 1, 2, 3, 4] 0 rfl rfl rfl rfl (by decide) rfl rfl rfl rfl rfl rfl hl.1 rfl (Nat.le_of_ble_eq_true rfl) dX3_casesThatReachAll_47 ⟨Nat.zero_le _, Nat.zero_le _⟩ (fun H locs hP hD hS => ?_)
        refine lv_iinc (v := x6 + 1) (lv' := [(6, .int (x6 + 1)), (0, .ref aQ), (1, .ref aN), (3, .int x3), (4, .int x4), (5, .int x5)]) hx hb dX3_casesThatReachAll_50 hl (k := 5) rfl rfl (by decide) rfl (fun ls hl => ?_)
        refine lv_goto (tgt := 32) hx hb dX3_casesThatReachAll_53 (by decide) ?_
        exact ih32 Q_cases_3306 x3 x4 x5 (x6 + 1) _ _ _ h hP hD hS (lv_sub hl [1, 2, 3, 4, 5, 0] rfl)
  unfold fX3_casesThatReachAll at h
  refine lv_iconst (v := 1) hx hb dX3_casesThatReachAll_0 (by decide) ?_
  refine lv_iload_n hx hb dX3_casesThatReachAll_1 rfl (lv_at hl 2 rfl) ?_
  refine lv_ishl hx hb dX3_casesThatReachAll_2 ?_
  obtain ⟨v1, ev1, h⟩ := bnd_s h
  refine kn_i ev1 ?_
  refine lv_istore (lv' := [(4, .int v1), (0, .ref aQ), (1, .ref aN), (2, .int p1), (3, .int p2)]) hx hb dX3_casesThatReachAll_3 hl (by decide) rfl (fun ls hl => ?_)
  refine lv_aload_n hx hb dX3_casesThatReachAll_5 rfl (lv_at hl 2 rfl) ?_
  refine lv_iload hx hb dX3_casesThatReachAll_6 (lv_at hl 0 rfl) ?_
  obtain ⟨r2, e3, h⟩ := bd1_s h
  refine kc_vi (rest := []) (wr := [(aQ, .inr (3, [.ref aQ_heard, .ref aQ_fewest, .ref aQ_spent, .ref aQ_cases])), (aQ_heard, .inl (cI, 256, .inl Q_heard)), (aQ_cases, .inl (cJ, 256, .inr (.inl Q_cases)))]) (wF := [(aN, .inr (1, [.ref aN_neighbours, .int N_posts])), (aN_neighbours, .inl (cI, 8, .inl N_neighbours)), (aQ, .inr (3, [.ref aQ_heard, .ref aQ_fewest, .ref aQ_spent, .ref aQ_cases])), (aQ_heard, .inl (cI, 256, .inl Q_heard)), (aQ_cases, .inl (cJ, 256, .inr (.inl Q_cases)))]) ⟨hx, hb, hml, hown, hts⟩ (c_X1_reachOf l dC dI cI cJ cZ cA aN aN_neighbours N_posts N_neighbours v1 r2 e3) (cwV 1 hts gX3_casesThatReachAll_X1_reachOf rfl rfl rfl (by decide +kernel) ⟨Nat.le_of_ble_eq_true rfl, Nat.le_of_ble_eq_true rfl⟩) hK hP hD hS hA [0, 1] [2, 3, 4] [3, 4, 0, 1, 2] 0 rfl rfl rfl rfl (by decide) rfl rfl rfl rfl rfl rfl hl.1 rfl (Nat.le_of_ble_eq_true rfl) dX3_casesThatReachAll_8 ⟨Nat.zero_le _, Nat.zero_le _⟩ (fun H locs hP hD hS => ?_)
  refine lv_istore (lv' := [(5, .int r2), (4, .int v1), (0, .ref aQ), (1, .ref aN), (2, .int p1), (3, .int p2)]) hx hb dX3_casesThatReachAll_11 hl (by decide) rfl (fun ls hl => ?_)
  refine lv_aload_n hx hb dX3_casesThatReachAll_13 rfl (lv_at hl 2 rfl) ?_
  refine ka_get (v := .ref aQ_cases) (C := RX3) (T := TX3) (Nf := 4) (ref := "BeepNet$Search") hx hb hts hiX3 hown hK hP 2 rfl rfl 3 (by decide) k_0 rfl rfl dX3_casesThatReachAll_14 ?_
  refine lv_lconst (v := 0) hx hb dX3_casesThatReachAll_17 (by decide) ?_
  obtain ⟨g4, eg4, h⟩ := bnd_s h
  refine kc_sv (rest := []) (wr := [(aN, .inr (1, [.ref aN_neighbours, .int N_posts])), (aN_neighbours, .inl (cI, 8, .inl N_neighbours)), (aQ, .inr (3, [.ref aQ_heard, .ref aQ_fewest, .ref aQ_spent, .ref aQ_cases])), (aQ_heard, .inl (cI, 256, .inl Q_heard))]) (wF := [(aN, .inr (1, [.ref aN_neighbours, .int N_posts])), (aN_neighbours, .inl (cI, 8, .inl N_neighbours)), (aQ, .inr (3, [.ref aQ_heard, .ref aQ_fewest, .ref aQ_spent, .ref aQ_cases])), (aQ_heard, .inl (cI, 256, .inl Q_heard)), (aQ_cases, .inl (cJ, 256, .inr (.inl g4)))]) ⟨hx, hb, hml, hown, hts⟩ (c_J7_fill_d0a16 l dC dI cI cJ cZ cA aQ_cases 256 Q_cases 0 g4 (by decide) eg4) (va_cwS 2 hts gX3_casesThatReachAll_J7_fill_d0a16 rfl rfl rfl (by decide +kernel) ⟨Nat.le_of_ble_eq_true rfl, Nat.le_of_ble_eq_true rfl⟩) hK hP hD hS hA [4] [0, 1, 2, 3] [0, 1, 2, 3, 4] rfl rfl rfl rfl (by decide) rfl rfl rfl hl.1 rfl (Nat.le_of_ble_eq_true rfl) dX3_casesThatReachAll_18 ⟨Nat.zero_le _, Nat.zero_le _⟩ (fun H locs hP hD hS => ?_)
  refine lv_aload_n hx hb dX3_casesThatReachAll_21 rfl (lv_at hl 2 rfl) ?_
  refine ka_get (v := .ref aQ_cases) (C := RX3) (T := TX3) (Nf := 4) (ref := "BeepNet$Search") hx hb hts hiX3 hown hK hP 2 rfl rfl 3 (by decide) k_0 rfl rfl dX3_casesThatReachAll_22 ?_
  refine lv_iload hx hb dX3_casesThatReachAll_25 (lv_at hl 1 rfl) ?_
  refine lv_lconst (v := 1) hx hb dX3_casesThatReachAll_27 (by decide) ?_
  obtain ⟨g5, eg5, hn6, h⟩ := stl_s h
  refine ka_lst (w1 := [(aN, .inr (1, [.ref aN_neighbours, .int N_posts])), (aN_neighbours, .inl (cI, 8, .inl N_neighbours)), (aQ, .inr (3, [.ref aQ_heard, .ref aQ_fewest, .ref aQ_spent, .ref aQ_cases])), (aQ_heard, .inl (cI, 256, .inl Q_heard)), (aQ_cases, .inl (cJ, 256, .inr (.inl g5)))]) hx hb hK hP hD hS 4 1 eg5 rfl rfl hn6 dX3_casesThatReachAll_28 rfl (fun H locs hP hD hS => ?_)
  refine lv_iconst (v := 0) hx hb dX3_casesThatReachAll_29 (by decide) ?_
  refine lv_istore (lv' := [(6, .int 0), (5, .int r2), (4, .int v1), (0, .ref aQ), (1, .ref aN), (2, .int p1), (3, .int p2)]) hx hb dX3_casesThatReachAll_30 hl (by decide) rfl (fun ls hl => ?_)
  exact hC32 FU g5 p2 v1 r2 0 _ _ _ h hP hD hS (lv_sub hl [3, 4, 6, 2, 1, 0] rfl)
