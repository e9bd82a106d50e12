set_option maxHeartbeats 4000000 in
set_option maxRecDepth 100000 in
theorem c_X3_listen (l : Launch) (dC : Nat → ClassId) (dI : Nat → Nat → Nat) (cI cJ cZ cA : ClassId) (aN aN_neighbours aQ aQ_heard aQ_fewest aQ_spent aQ_cases : Nat) (N_posts : Int32) (N_neighbours : Nat → Int32) (Q_heard : Nat → Int32) (p1 : Int32) (Q_heard_z : Nat → Int32) (h : fX3_listen N_posts N_neighbours Q_heard p1 = some Q_heard_z) : Ctv l yX3_listen wsX3_listen rmX3_listen (dC, dI) (tyL cI cJ cZ cA) [(aN, .inr (1, [.ref aN_neighbours, .int N_posts])), (aN_neighbours, .inl (cI, 8, .inl N_neighbours)), (aQ, .inr (3, [.ref aQ_heard, .ref aQ_fewest, .ref aQ_spent, .ref aQ_cases])), (aQ_heard, .inl (cI, 256, .inl Q_heard))] [(aN, .inr (1, [.ref aN_neighbours, .int N_posts])), (aN_neighbours, .inl (cI, 8, .inl N_neighbours)), (aQ, .inr (3, [.ref aQ_heard, .ref aQ_fewest, .ref aQ_spent, .ref aQ_cases])), (aQ_heard, .inl (cI, 256, .inl Q_heard_z))] [.ref aQ, .ref aN, .int p1] := by
  refine ct_void (cc := cX3_listen) (maxL := 4) (by decide) rfl (Nat.le_of_ble_eq_true rfl) ?_
  intro p e s m args below meth c A Q ls hx hb hml hown hts hA hK hP hD hS hl hret
  have hl : lv_has ls 4 [(0, .ref aQ), (1, .ref aN), (2, .int p1)] := hl
  have k_0 := hts (.fieldLink RX3 9 "BeepNet$Search" "heard" "[I") (by decide +kernel)
  have hiX3 : ∀ w ∈ u_ws RX3 TX3 4, w ∈ wsX3_listen := fun w hw => List.mem_cons_of_mem _ (List.mem_append_left _ (List.mem_append_right _ hw))
  have hC2 : ∀ (n : Nat) (Q_heard : Nat → Int32) (x2 : Int32) (x3 : Int32) (H : Heap) (locs : List Loc) (ls : Array Slot), fX3_listen_c2 N_posts N_neighbours n Q_heard x2 x3 = some Q_heard_z → va_P (dC, dI) vwCl [(aN, .inr (1, [.ref aN_neighbours, .int N_posts])), (aN_neighbours, .inl (cI, 8, .inl N_neighbours)), (aQ, .inr (3, [.ref aQ_heard, .ref aQ_fewest, .ref aQ_spent, .ref aQ_cases])), (aQ_heard, .inl (cI, 256, .inl Q_heard))] H → va_D A [(aN, .inr (1, [.ref aN_neighbours, .int N_posts])), (aN_neighbours, .inl (cI, 8, .inl N_neighbours)), (aQ, .inr (3, [.ref aQ_heard, .ref aQ_fewest, .ref aQ_spent, .ref aQ_cases])), (aQ_heard, .inl (cI, 256, .inl Q_heard))] → va_S A s.heap H locs → lv_has ls 4 [(0, .ref aQ), (1, .ref aN), (2, .int x2), (3, .int x3)] → W p l e rmX3_listen s m args below meth c H locs 0 0 Q (F0 m 2 ls []) := by
    intro n
    induction n with
    | zero => intro Q_heard x2 x3 H locs ls h; rw [fX3_listen_c2] at h; cases h
    | succ n2 ih2 =>
      intro Q_heard x2 x3 H locs ls h hP hD hS hl
      rw [fX3_listen_c2] at h
      refine lv_iload_n hx hb dX3_listen_2 rfl (lv_at hl 3 rfl) ?_
      refine lv_aload_n hx hb dX3_listen_3 rfl (lv_at hl 1 rfl) ?_
      obtain ⟨r301, e302, h⟩ := bd1_s h
      refine kc_vi (rest := [.int x3]) (wr := [(aN_neighbours, .inl (cI, 8, .inl N_neighbours)), (aQ, .inr (3, [.ref aQ_heard, .ref aQ_fewest, .ref aQ_spent, .ref aQ_cases])), (aQ_heard, .inl (cI, 256, .inl Q_heard))]) (wF := [(aN, .inr (1, [.ref aN_neighbours, .int N_posts])), (aN_neighbours, .inl (cI, 8, .inl N_neighbours)), (aQ, .inr (3, [.ref aQ_heard, .ref aQ_fewest, .ref aQ_spent, .ref aQ_cases])), (aQ_heard, .inl (cI, 256, .inl Q_heard))]) ⟨hx, hb, hml, hown, hts⟩ (c_X1_allPosts l dC dI cI cJ cZ cA aN aN_neighbours N_posts r301 e302) (cwV 0 hts gX3_listen_X1_allPosts rfl rfl rfl (by decide +kernel) ⟨Nat.le_of_ble_eq_true rfl, Nat.le_of_ble_eq_true rfl⟩) hK hP hD hS hA [0] [1, 2, 3] [3, 0, 1, 2] 0 rfl rfl rfl rfl (by decide) rfl rfl rfl rfl rfl rfl hl.1 rfl (Nat.le_of_ble_eq_true rfl) dX3_listen_4 ⟨Nat.zero_le _, Nat.zero_le _⟩ (fun H locs hP hD hS => ?_)
      refine lv_icmp_gt (tgt := 28) hx hb dX3_listen_7 (by decide) (fun c303 => ?_) (fun c303 => ?_)
      · have h := ift c303 h
        obtain rfl := sj1 h
        exact hret _ _ _ _ hP hD hS dX3_listen_28
      · have h := ifn c303 h
        refine lv_aload_n hx hb dX3_listen_10 rfl (lv_at hl 0 rfl) ?_
        refine ka_get (v := .ref aQ_heard) (C := RX3) (T := TX3) (Nf := 4) (ref := "BeepNet$Search") hx hb hts hiX3 hown hK hP 2 rfl rfl 0 (by decide) k_0 rfl rfl dX3_listen_11 ?_
        refine lv_iload_n hx hb dX3_listen_14 rfl (lv_at hl 3 rfl) ?_
        refine lv_aload_n hx hb dX3_listen_15 rfl (lv_at hl 1 rfl) ?_
        refine lv_iload_n hx hb dX3_listen_16 rfl (lv_at hl 2 rfl) ?_
        refine lv_iload_n hx hb dX3_listen_17 rfl (lv_at hl 3 rfl) ?_
        obtain ⟨r304, e305, h⟩ := bd1_s h
        refine kc_vi (rest := [.int x3, .ref aQ_heard]) (wr := [(aQ, .inr (3, [.ref aQ_heard, .ref aQ_fewest, .ref aQ_spent, .ref aQ_cases])), (aQ_heard, .inl (cI, 256, .inl Q_heard))]) (wF := [(aN, .inr (1, [.ref aN_neighbours, .int N_posts])), (aN_neighbours, .inl (cI, 8, .inl N_neighbours)), (aQ, .inr (3, [.ref aQ_heard, .ref aQ_fewest, .ref aQ_spent, .ref aQ_cases])), (aQ_heard, .inl (cI, 256, .inl Q_heard))]) ⟨hx, hb, hml, hown, hts⟩ (c_X1_heardBy l dC dI cI cJ cZ cA aN aN_neighbours N_posts N_neighbours x2 x3 r304 e305) (cwV 2 hts gX3_listen_X1_heardBy rfl rfl rfl (by decide +kernel) ⟨Nat.le_of_ble_eq_true rfl, Nat.le_of_ble_eq_true rfl⟩) hK hP hD hS hA [0, 1] [2, 3] [2, 3, 0, 1] 0 rfl rfl rfl rfl (by decide) rfl rfl rfl rfl rfl rfl hl.1 rfl (Nat.le_of_ble_eq_true rfl) dX3_listen_18 ⟨Nat.zero_le _, Nat.zero_le _⟩ (fun H locs hP hD hS => ?_)
        obtain ⟨g306, eg306, hn307, h⟩ := sti_s h
        refine ka_ist (w1 := [(aN, .inr (1, [.ref aN_neighbours, .int N_posts])), (aN_neighbours, .inl (cI, 8, .inl N_neighbours)), (aQ, .inr (3, [.ref aQ_heard, .ref aQ_fewest, .ref aQ_spent, .ref aQ_cases])), (aQ_heard, .inl (cI, 256, .inl g306))]) hx hb hK hP hD hS 3 0 eg306 rfl rfl hn307 dX3_listen_21 rfl (fun H locs hP hD hS => ?_)
        refine lv_iinc (v := x3 + 1) (lv' := [(3, .int (x3 + 1)), (0, .ref aQ), (1, .ref aN), (2, .int x2)]) hx hb dX3_listen_22 hl (k := 3) rfl rfl (by decide) rfl (fun ls hl => ?_)
        refine lv_goto (tgt := 2) hx hb dX3_listen_25 (by decide) ?_
        exact ih2 g306 x2 (x3 + 1) _ _ _ h hP hD hS (lv_sub hl [1, 2, 3, 0] rfl)
  unfold fX3_listen at h
  refine lv_iconst (v := 0) hx hb dX3_listen_0 (by decide) ?_
  refine lv_istore_n (lv' := [(3, .int 0), (0, .ref aQ), (1, .ref aN), (2, .int p1)]) hx hb dX3_listen_1 rfl hl (by decide) rfl (fun ls hl => ?_)
  exact hC2 FU Q_heard p1 0 _ _ _ h hP hD hS (lv_sub hl [1, 2, 3, 0] rfl)
set_option maxHeartbeats 4000000 in
set_option maxRecDepth 100000 in
theorem c_X3_fewestBehindOneRound (l : Launch) (dC : Nat → ClassId) (dI : Nat → Nat → Nat) (cI cJ cZ cA : ClassId) (aQ aQ_heard aQ_fewest aQ_spent aQ_cases : Nat) (Q_heard : Nat → Int32) (Q_fewest : Nat → Int32) (p0 : Int32) (rr : Int32) (h : fX3_fewestBehindOneRound Q_heard Q_fewest p0 = some rr) : Cti l yX3_fewestBehindOneRound wsX3_fewestBehindOneRound rmX3_fewestBehindOneRound (dC, dI) (tyL cI cJ cZ cA) [(aQ, .inr (3, [.ref aQ_heard, .ref aQ_fewest, .ref aQ_spent, .ref aQ_cases])), (aQ_heard, .inl (cI, 256, .inl Q_heard)), (aQ_fewest, .inl (cI, 256, .inl Q_fewest))] [(aQ, .inr (3, [.ref aQ_heard, .ref aQ_fewest, .ref aQ_spent, .ref aQ_cases])), (aQ_heard, .inl (cI, 256, .inl Q_heard)), (aQ_fewest, .inl (cI, 256, .inl Q_fewest))] [.ref aQ, .int p0] rr := by
  refine ct_int (ty := .int) (cc := cX3_fewestBehindOneRound) (maxL := 5) (by decide) rfl (Nat.le_of_ble_eq_true rfl) ?_
  intro p e s m args below meth c A Q ls hx hb hml hown hts hA hK hP hD hS hl hret
  have hl : lv_has ls 5 [(0, .ref aQ), (1, .int p0)] := hl
  have k_0 := hts (.fieldLink RX3 9 "BeepNet$Search" "heard" "[I") (by decide +kernel)
  have k_1 := hts (.fieldLink RX3 15 "BeepNet$Search" "fewest" "[I") (by decide +kernel)
  have k_2 := hts (.methodLink RX3 39 Lib.Math.min.name) (by decide +kernel)
  have k_3 := hts (.static Lib.Math.min.name) (by decide +kernel)
  have k_4 := hts (.initialized "java/lang/Math") (by decide +kernel)
  have k_5 := hts (.code Lib.Math.min.name Lib.Math.min.code 2 (some .int)) (by decide +kernel)
  have hiX3 : ∀ w ∈ u_ws RX3 TX3 4, w ∈ wsX3_fewestBehindOneRound := fun w hw => List.mem_cons_of_mem _ (List.mem_append_right _ hw)
  have hC5 : ∀ (n : Nat) (x1 : Int32) (x2 : Int32) (x3 : Int32) (H : Heap) (locs : List Loc) (ls : Array Slot), fX3_fewestBehindOneRound_c5 Q_heard Q_fewest n x1 x2 x3 = some rr → va_P (dC, dI) vwCl [(aQ, .inr (3, [.ref aQ_heard, .ref aQ_fewest, .ref aQ_spent, .ref aQ_cases])), (aQ_heard, .inl (cI, 256, .inl Q_heard)), (aQ_fewest, .inl (cI, 256, .inl Q_fewest))] H → va_D A [(aQ, .inr (3, [.ref aQ_heard, .ref aQ_fewest, .ref aQ_spent, .ref aQ_cases])), (aQ_heard, .inl (cI, 256, .inl Q_heard)), (aQ_fewest, .inl (cI, 256, .inl Q_fewest))] → va_S A s.heap H locs → lv_has ls 5 [(0, .ref aQ), (1, .int x1), (2, .int x2), (3, .int x3)] → W p l e rmX3_fewestBehindOneRound s m args below meth c H locs 0 0 Q (F0 m 5 ls []) := by
    intro n
    induction n with
    | zero => intro x1 x2 x3 H locs ls h; rw [fX3_fewestBehindOneRound_c5] at h; cases h
    | succ n5 ih5 =>
      have hC37 : ∀ (x1 : Int32) (x2 : Int32) (x3 : Int32) (H : Heap) (locs : List Loc) (ls : Array Slot), fX3_fewestBehindOneRound_c37 Q_heard Q_fewest (fX3_fewestBehindOneRound_c5 Q_heard Q_fewest n5) x1 x2 x3 = some rr → va_P (dC, dI) vwCl [(aQ, .inr (3, [.ref aQ_heard, .ref aQ_fewest, .ref aQ_spent, .ref aQ_cases])), (aQ_heard, .inl (cI, 256, .inl Q_heard)), (aQ_fewest, .inl (cI, 256, .inl Q_fewest))] H → va_D A [(aQ, .inr (3, [.ref aQ_heard, .ref aQ_fewest, .ref aQ_spent, .ref aQ_cases])), (aQ_heard, .inl (cI, 256, .inl Q_heard)), (aQ_fewest, .inl (cI, 256, .inl Q_fewest))] → va_S A s.heap H locs → lv_has ls 5 [(0, .ref aQ), (1, .int x1), (2, .int x2), (3, .int x3)] → W p l e rmX3_fewestBehindOneRound s m args below meth c H locs 0 0 Q (F0 m 37 ls []) := by
        intro x1 x2 x3 H locs ls h hP hD hS hl
        unfold fX3_fewestBehindOneRound_c37 at h
        refine lv_iload_n hx hb dX3_fewestBehindOneRound_37 rfl (lv_at hl 3 rfl) ?_
        refine lv_iconst (v := 1) hx hb dX3_fewestBehindOneRound_38 (by decide) ?_
        refine lv_isub hx hb dX3_fewestBehindOneRound_39 ?_
        refine lv_iload_n hx hb dX3_fewestBehindOneRound_40 rfl (lv_at hl 1 rfl) ?_
        refine lv_iand hx hb dX3_fewestBehindOneRound_41 ?_
        obtain ⟨v3801, ev3801, h⟩ := bnd_s h
        refine kn_i ev3801 ?_
        refine lv_istore_n (lv' := [(3, .int v3801), (0, .ref aQ), (1, .int x1), (2, .int x2)]) hx hb dX3_fewestBehindOneRound_42 rfl hl (by decide) rfl (fun ls hl => ?_)
        refine lv_goto (tgt := 5) hx hb dX3_fewestBehindOneRound_43 (by decide) ?_
        exact ih5 x1 x2 v3801 _ _ _ h hP hD hS (lv_sub hl [1, 2, 3, 0] rfl)
      intro x1 x2 x3 H locs ls h hP hD hS hl
      rw [fX3_fewestBehindOneRound_c5] at h
      refine lv_iload_n hx hb dX3_fewestBehindOneRound_5 rfl (lv_at hl 3 rfl) ?_
      refine lv_if_le (tgt := 46) hx hb dX3_fewestBehindOneRound_6 (by decide) (fun c601 => ?_) (fun c601 => ?_)
      · have h := ift c601 h
        refine lv_iload_n hx hb dX3_fewestBehindOneRound_46 rfl (lv_at hl 2 rfl) ?_
        obtain rfl := sj1 h
        exact hret _ _ _ _ _ rfl rfl hP hD hS dX3_fewestBehindOneRound_47
      · have h := ifn c601 h
        refine lv_iload_n hx hb dX3_fewestBehindOneRound_9 rfl (lv_at hl 1 rfl) ?_
        refine lv_aload_n hx hb dX3_fewestBehindOneRound_10 rfl (lv_at hl 0 rfl) ?_
        refine ka_get (v := .ref aQ_heard) (C := RX3) (T := TX3) (Nf := 4) (ref := "BeepNet$Search") hx hb hts hiX3 hown hK hP 0 rfl rfl 0 (by decide) k_0 rfl rfl dX3_fewestBehindOneRound_11 ?_
        refine lv_iload_n hx hb dX3_fewestBehindOneRound_14 rfl (lv_at hl 3 rfl) ?_
        obtain ⟨v602, ev602, hn603, h⟩ := ldx_s h
        refine ka_ild hx hb hK hP 1 0 ev602 rfl rfl hn603 dX3_fewestBehindOneRound_15 ?_
        refine lv_ior hx hb dX3_fewestBehindOneRound_16 ?_
        refine lv_istore (lv' := [(4, .int (x1 ||| v602)), (0, .ref aQ), (1, .int x1), (2, .int x2), (3, .int x3)]) hx hb dX3_fewestBehindOneRound_17 hl (by decide) rfl (fun ls hl => ?_)
        refine lv_iload hx hb dX3_fewestBehindOneRound_19 (lv_at hl 0 rfl) ?_
        refine lv_iload_n hx hb dX3_fewestBehindOneRound_21 rfl (lv_at hl 2 rfl) ?_
        refine lv_icmp_eq (tgt := 37) hx hb dX3_fewestBehindOneRound_22 (by decide) (fun c604 => ?_) (fun c604 => ?_)
        · have h := ift c604 h
          exact hC37 x1 x2 x3 _ _ _ h hP hD hS (lv_sub hl [1, 2, 3, 4] rfl)
        · have h := ifn c604 h
          refine lv_iload_n hx hb dX3_fewestBehindOneRound_25 rfl (lv_at hl 3 rfl) ?_
          refine lv_aload_n hx hb dX3_fewestBehindOneRound_26 rfl (lv_at hl 1 rfl) ?_
          refine ka_get (v := .ref aQ_fewest) (C := RX3) (T := TX3) (Nf := 4) (ref := "BeepNet$Search") hx hb hts hiX3 hown hK hP 0 rfl rfl 1 (by decide) k_1 rfl rfl dX3_fewestBehindOneRound_27 ?_
          refine lv_iload hx hb dX3_fewestBehindOneRound_30 (lv_at hl 0 rfl) ?_
          obtain ⟨v605, ev605, hn606, h⟩ := ldx_s h
          refine ka_ild hx hb hK hP 2 0 ev605 rfl rfl hn606 dX3_fewestBehindOneRound_32 ?_
          obtain ⟨v607, ev607, h⟩ := bnd_s h
          refine va_mmin hx hb (by rw [hml]; exact hl.1.symm) hown k_2 k_3 k_4 k_5 (Nat.le_of_ble_eq_true rfl) (Nat.le_of_ble_eq_true rfl) (Nat.zero_le _) (Nat.zero_le _) dX3_fewestBehindOneRound_33 ?_
          refine kn_i ev607 ?_
          refine lv_istore_n (lv' := [(2, .int v607), (4, .int (x1 ||| v602)), (0, .ref aQ), (1, .int x1), (3, .int x3)]) hx hb dX3_fewestBehindOneRound_36 rfl hl (by decide) rfl (fun ls hl => ?_)
          exact hC37 x1 v607 x3 _ _ _ h hP hD hS (lv_sub hl [2, 3, 0, 4] rfl)
  unfold fX3_fewestBehindOneRound at h
  refine lv_bipush (v := 8) hx hb dX3_fewestBehindOneRound_0 (by decide) ?_
  refine lv_istore_n (lv' := [(2, .int 8), (0, .ref aQ), (1, .int p0)]) hx hb dX3_fewestBehindOneRound_2 rfl hl (by decide) rfl (fun ls hl => ?_)
  refine lv_iload_n hx hb dX3_fewestBehindOneRound_3 rfl (lv_at hl 2 rfl) ?_
  refine lv_istore_n (lv' := [(3, .int p0), (2, .int 8), (0, .ref aQ), (1, .int p0)]) hx hb dX3_fewestBehindOneRound_4 rfl hl (by decide) rfl (fun ls hl => ?_)
  exact hC5 FU p0 8 p0 _ _ _ h hP hD hS (lv_sub hl [2, 3, 1, 0] rfl)
set_option maxHeartbeats 4000000 in
set_option maxRecDepth 100000 in
theorem c_X3_findFewest (l : Launch) (dC : Nat → ClassId) (dI : Nat → Nat → Nat) (cI cJ cZ cA : ClassId) (aQ aQ_heard aQ_fewest aQ_spent aQ_cases : Nat) (Q_heard : Nat → Int32) (Q_fewest : Nat → Int32) (p0 : Int32) (p1 : Int32) (Q_fewest_z : Nat → Int32) (h : fX3_findFewest Q_heard Q_fewest p0 p1 = some Q_fewest_z) : Ctv l yX3_findFewest wsX3_findFewest rmX3_findFewest (dC, dI) (tyL cI cJ cZ cA) [(aQ, .inr (3, [.ref aQ_heard, .ref aQ_fewest, .ref aQ_spent, .ref aQ_cases])), (aQ_heard, .inl (cI, 256, .inl Q_heard)), (aQ_fewest, .inl (cI, 256, .inl Q_fewest))] [(aQ, .inr (3, [.ref aQ_heard, .ref aQ_fewest, .ref aQ_spent, .ref aQ_cases])), (aQ_heard, .inl (cI, 256, .inl Q_heard)), (aQ_fewest, .inl (cI, 256, .inl Q_fewest_z))] [.ref aQ, .int p0, .int p1] := by
  refine ct_void (cc := cX3_findFewest) (maxL := 4) (by decide) rfl (Nat.le_of_ble_eq_true rfl) ?_
  intro p e s m args below meth c A Q ls hx hb hml hown hts hA hK hP hD hS hl hret
  have hl : lv_has ls 4 [(0, .ref aQ), (1, .int p0), (2, .int p1)] := hl
  have k_0 := hts (.fieldLink RX3 15 "BeepNet$Search" "fewest" "[I") (by decide +kernel)
  have hiX3 : ∀ w ∈ u_ws RX3 TX3 4, w ∈ wsX3_findFewest := fun w hw => List.mem_cons_of_mem _ (List.mem_append_right _ hw)
  have hC11 : ∀ (n : Nat) (Q_fewest : Nat → Int32) (x1 : Int32) (x2 : Int32) (x3 : Int32) (H : Heap) (locs : List Loc) (ls : Array Slot), fX3_findFewest_c11 Q_heard n Q_fewest x1 x2 x3 = some Q_fewest_z → va_P (dC, dI) vwCl [(aQ, .inr (3, [.ref aQ_heard, .ref aQ_fewest, .ref aQ_spent, .ref aQ_cases])), (aQ_heard, .inl (cI, 256, .inl Q_heard)), (aQ_fewest, .inl (cI, 256, .inl Q_fewest))] H → va_D A [(aQ, .inr (3, [.ref aQ_heard, .ref aQ_fewest, .ref aQ_spent, .ref aQ_cases])), (aQ_heard, .inl (cI, 256, .inl Q_heard)), (aQ_fewest, .inl (cI, 256, .inl Q_fewest))] → va_S A s.heap H locs → lv_has ls 4 [(0, .ref aQ), (1, .int x1), (2, .int x2), (3, .int x3)] → W p l e rmX3_findFewest s m args below meth c H locs 0 0 Q (F0 m 11 ls []) := by
    intro n
    induction n with
    | zero => intro Q_fewest x1 x2 x3 H locs ls h; rw [fX3_findFewest_c11] at h; cases h
    | succ n11 ih11 =>
      intro Q_fewest x1 x2 x3 H locs ls h hP hD hS hl
      rw [fX3_findFewest_c11] at h
      refine lv_iload_n hx hb dX3_findFewest_11 rfl (lv_at hl 3 rfl) ?_
      refine lv_iload_n hx hb dX3_findFewest_12 rfl (lv_at hl 1 rfl) ?_
      refine lv_icmp_lt (tgt := 50) hx hb dX3_findFewest_13 (by decide) (fun c1201 => ?_) (fun c1201 => ?_)
      · have h := ift c1201 h
        obtain rfl := sj1 h
        exact hret _ _ _ _ hP hD hS dX3_findFewest_50
      · have h := ifn c1201 h
        refine lv_iload_n hx hb dX3_findFewest_16 rfl (lv_at hl 3 rfl) ?_
        refine lv_iload_n hx hb dX3_findFewest_17 rfl (lv_at hl 1 rfl) ?_
        refine lv_iand hx hb dX3_findFewest_18 ?_
        refine lv_iload_n hx hb dX3_findFewest_19 rfl (lv_at hl 1 rfl) ?_
        refine lv_icmp_ne (tgt := 44) hx hb dX3_findFewest_20 (by decide) (fun c1202 => ?_) (fun c1202 => ?_)
        · have h := ifn c1202 h
          refine lv_iinc (v := x3 + (-1)) (lv' := [(3, .int (x3 + (-1))), (0, .ref aQ), (1, .int x1), (2, .int x2)]) hx hb dX3_findFewest_44 hl (k := 3) rfl rfl (by decide) rfl (fun ls hl => ?_)
          refine lv_goto (tgt := 11) hx hb dX3_findFewest_47 (by decide) ?_
          exact ih11 Q_fewest x1 x2 (x3 + (-1)) _ _ _ h hP hD hS (lv_sub hl [1, 2, 3, 0] rfl)
        · have h := ift c1202 h
          refine lv_iload_n hx hb dX3_findFewest_23 rfl (lv_at hl 3 rfl) ?_
          refine lv_iload_n hx hb dX3_findFewest_24 rfl (lv_at hl 2 rfl) ?_
          refine lv_iconst (v := -1) hx hb dX3_findFewest_25 (by decide) ?_
          refine lv_ixor hx hb dX3_findFewest_26 ?_
          refine lv_iand hx hb dX3_findFewest_27 ?_
          refine lv_if_ne (tgt := 44) hx hb dX3_findFewest_28 (by decide) (fun c1203 => ?_) (fun c1203 => ?_)
          · have h := ifn c1203 h
            refine lv_iinc (v := x3 + (-1)) (lv' := [(3, .int (x3 + (-1))), (0, .ref aQ), (1, .int x1), (2, .int x2)]) hx hb dX3_findFewest_44 hl (k := 3) rfl rfl (by decide) rfl (fun ls hl => ?_)
            refine lv_goto (tgt := 11) hx hb dX3_findFewest_47 (by decide) ?_
            exact ih11 Q_fewest x1 x2 (x3 + (-1)) _ _ _ h hP hD hS (lv_sub hl [1, 2, 3, 0] rfl)
          · have h := ift c1203 h
            refine lv_aload_n hx hb dX3_findFewest_31 rfl (lv_at hl 0 rfl) ?_
            refine ka_get (v := .ref aQ_fewest) (C := RX3) (T := TX3) (Nf := 4) (ref := "BeepNet$Search") hx hb hts hiX3 hown hK hP 0 rfl rfl 1 (by decide) k_0 rfl rfl dX3_findFewest_32 ?_
            refine lv_iload_n hx hb dX3_findFewest_35 rfl (lv_at hl 3 rfl) ?_
            refine lv_iconst (v := 1) hx hb dX3_findFewest_36 (by decide) ?_
            refine lv_aload_n hx hb dX3_findFewest_37 rfl (lv_at hl 0 rfl) ?_
            refine lv_iload_n hx hb dX3_findFewest_38 rfl (lv_at hl 3 rfl) ?_
            obtain ⟨r1204, e1205, h⟩ := bd1_s h
            refine kc_vi (rest := [.int 1, .int x3, .ref aQ_fewest]) (wr := []) (wF := [(aQ, .inr (3, [.ref aQ_heard, .ref aQ_fewest, .ref aQ_spent, .ref aQ_cases])), (aQ_heard, .inl (cI, 256, .inl Q_heard)), (aQ_fewest, .inl (cI, 256, .inl Q_fewest))]) ⟨hx, hb, hml, hown, hts⟩ (c_X3_fewestBehindOneRound l dC dI cI cJ cZ cA aQ aQ_heard aQ_fewest aQ_spent aQ_cases Q_heard Q_fewest x3 r1204 e1205) (cwV 1 hts gX3_findFewest_X3_fewestBehindOneRound rfl rfl rfl (by decide +kernel) ⟨Nat.le_of_ble_eq_true rfl, Nat.le_of_ble_eq_true rfl⟩) hK hP hD hS hA [0, 1, 2] [] [0, 1, 2] 0 rfl rfl rfl rfl (by decide) rfl rfl rfl rfl rfl rfl hl.1 rfl (Nat.le_of_ble_eq_true rfl) dX3_findFewest_39 ⟨Nat.zero_le _, Nat.zero_le _⟩ (fun H locs hP hD hS => ?_)
            refine lv_iadd hx hb dX3_findFewest_42 ?_
            obtain ⟨g1206, eg1206, hn1207, h⟩ := sti_s h
            refine ka_ist (w1 := [(aQ, .inr (3, [.ref aQ_heard, .ref aQ_fewest, .ref aQ_spent, .ref aQ_cases])), (aQ_heard, .inl (cI, 256, .inl Q_heard)), (aQ_fewest, .inl (cI, 256, .inl g1206))]) hx hb hK hP hD hS 2 0 eg1206 rfl rfl hn1207 dX3_findFewest_43 rfl (fun H locs hP hD hS => ?_)
            refine lv_iinc (v := x3 + (-1)) (lv' := [(3, .int (x3 + (-1))), (0, .ref aQ), (1, .int x1), (2, .int x2)]) hx hb dX3_findFewest_44 hl (k := 3) rfl rfl (by decide) rfl (fun ls hl => ?_)
            refine lv_goto (tgt := 11) hx hb dX3_findFewest_47 (by decide) ?_
            exact ih11 g1206 x1 x2 (x3 + (-1)) _ _ _ h hP hD hS (lv_sub hl [1, 2, 3, 0] rfl)
  unfold fX3_findFewest at h
  refine lv_aload_n hx hb dX3_findFewest_0 rfl (lv_at hl 0 rfl) ?_
  refine ka_get (v := .ref aQ_fewest) (C := RX3) (T := TX3) (Nf := 4) (ref := "BeepNet$Search") hx hb hts hiX3 hown hK hP 0 rfl rfl 1 (by decide) k_0 rfl rfl dX3_findFewest_1 ?_
  refine lv_iload_n hx hb dX3_findFewest_4 rfl (lv_at hl 2 rfl) ?_
  refine lv_iconst (v := 0) hx hb dX3_findFewest_5 (by decide) ?_
  obtain ⟨g1, eg1, hn2, h⟩ := sti_s h
  refine ka_ist (w1 := [(aQ, .inr (3, [.ref aQ_heard, .ref aQ_fewest, .ref aQ_spent, .ref aQ_cases])), (aQ_heard, .inl (cI, 256, .inl Q_heard)), (aQ_fewest, .inl (cI, 256, .inl g1))]) hx hb hK hP hD hS 2 0 eg1 rfl rfl hn2 dX3_findFewest_6 rfl (fun H locs hP hD hS => ?_)
  refine lv_iload_n hx hb dX3_findFewest_7 rfl (lv_at hl 2 rfl) ?_
  refine lv_iconst (v := 1) hx hb dX3_findFewest_8 (by decide) ?_
  refine lv_isub hx hb dX3_findFewest_9 ?_
  refine lv_istore_n (lv' := [(3, .int (p1 - (1 : Int32))), (0, .ref aQ), (1, .int p0), (2, .int p1)]) hx hb dX3_findFewest_10 rfl hl (by decide) rfl (fun ls hl => ?_)
  exact hC11 FU g1 p0 p1 (p1 - (1 : Int32)) _ _ _ h hP hD hS (lv_sub hl [1, 2, 3, 0] rfl)
set_option maxHeartbeats 4000000 in
set_option maxRecDepth 100000 in
theorem c_X3_fewestFrom (l : Launch) (dC : Nat → ClassId) (dI : Nat → Nat → Nat) (cI cJ cZ cA : ClassId) (aQ aQ_heard aQ_fewest aQ_spent aQ_cases : Nat) (Q_fewest : Nat → Int32) (p0 : Int32) (rr : Int32) (h : fX3_fewestFrom Q_fewest p0 = some rr) : Cti l yX3_fewestFrom wsX3_fewestFrom rmX3_fewestFrom (dC, dI) (tyL cI cJ cZ cA) [(aQ, .inr (3, [.ref aQ_heard, .ref aQ_fewest, .ref aQ_spent, .ref aQ_cases])), (aQ_fewest, .inl (cI, 256, .inl Q_fewest))] [(aQ, .inr (3, [.ref aQ_heard, .ref aQ_fewest, .ref aQ_spent, .ref aQ_cases])), (aQ_fewest, .inl (cI, 256, .inl Q_fewest))] [.ref aQ, .int p0] rr := by
  refine ct_int (ty := .int) (cc := cX3_fewestFrom) (maxL := 2) (by decide) rfl (Nat.le_of_ble_eq_true rfl) ?_
  intro p e s m args below meth c A Q ls hx hb hml hown hts hA hK hP hD hS hl hret
  have hl : lv_has ls 2 [(0, .ref aQ), (1, .int p0)] := hl
  have k_0 := hts (.fieldLink RX3 15 "BeepNet$Search" "fewest" "[I") (by decide +kernel)
  have hiX3 : ∀ w ∈ u_ws RX3 TX3 4, w ∈ wsX3_fewestFrom := fun w hw => List.mem_cons_of_mem _ (List.mem_append_right _ hw)
  unfold fX3_fewestFrom at h
  refine lv_aload_n hx hb dX3_fewestFrom_0 rfl (lv_at hl 0 rfl) ?_
  refine ka_get (v := .ref aQ_fewest) (C := RX3) (T := TX3) (Nf := 4) (ref := "BeepNet$Search") hx hb hts hiX3 hown hK hP 0 rfl rfl 1 (by decide) k_0 rfl rfl dX3_fewestFrom_1 ?_
  refine lv_iload_n hx hb dX3_fewestFrom_4 rfl (lv_at hl 1 rfl) ?_
  obtain ⟨v1, ev1, hn2, h⟩ := ldx_s h
  refine ka_ild hx hb hK hP 1 0 ev1 rfl rfl hn2 dX3_fewestFrom_5 ?_
  obtain rfl := sj1 h
  exact hret _ _ _ _ _ rfl rfl hP hD hS dX3_fewestFrom_6
set_option maxHeartbeats 4000000 in
set_option maxRecDepth 100000 in
theorem c_X3_firstSet (l : Launch) (dC : Nat → ClassId) (dI : Nat → Nat → Nat) (cI cJ cZ cA : ClassId) (aQ aQ_heard aQ_fewest aQ_spent aQ_cases : Nat) (Q_heard : Nat → Int32) (Q_fewest : Nat → Int32) (p0 : Int32) (rr : Int32) (h : fX3_firstSet Q_heard Q_fewest p0 = some rr) : Cti l yX3_firstSet wsX3_firstSet rmX3_firstSet (dC, dI) (tyL cI cJ cZ cA) [(aQ, .inr (3, [.ref aQ_heard, .ref aQ_fewest, .ref aQ_spent, .ref aQ_cases])), (aQ_heard, .inl (cI, 256, .inl Q_heard)), (aQ_fewest, .inl (cI, 256, .inl Q_fewest))] [(aQ, .inr (3, [.ref aQ_heard, .ref aQ_fewest, .ref aQ_spent, .ref aQ_cases])), (aQ_heard, .inl (cI, 256, .inl Q_heard)), (aQ_fewest, .inl (cI, 256, .inl Q_fewest))] [.ref aQ, .int p0] rr := by
  refine ct_int (ty := .int) (cc := cX3_firstSet) (maxL := 3) (by decide) rfl (Nat.le_of_ble_eq_true rfl) ?_
  intro p e s m args below meth c A Q ls hx hb hml hown hts hA hK hP hD hS hl hret
  have hl : lv_has ls 3 [(0, .ref aQ), (1, .int p0)] := hl
  have k_0 := hts (.fieldLink RX3 15 "BeepNet$Search" "fewest" "[I") (by decide +kernel)
  have k_1 := hts (.fieldLink RX3 9 "BeepNet$Search" "heard" "[I") (by decide +kernel)
  have hiX3 : ∀ w ∈ u_ws RX3 TX3 4, w ∈ wsX3_firstSet := fun w hw => List.mem_cons_of_mem _ (List.mem_append_right _ hw)
  have hC2 : ∀ (n : Nat) (x1 : Int32) (x2 : Int32) (H : Heap) (locs : List Loc) (ls : Array Slot), fX3_firstSet_c2 Q_heard Q_fewest n x1 x2 = some rr → va_P (dC, dI) vwCl [(aQ, .inr (3, [.ref aQ_heard, .ref aQ_fewest, .ref aQ_spent, .ref aQ_cases])), (aQ_heard, .inl (cI, 256, .inl Q_heard)), (aQ_fewest, .inl (cI, 256, .inl Q_fewest))] H → va_D A [(aQ, .inr (3, [.ref aQ_heard, .ref aQ_fewest, .ref aQ_spent, .ref aQ_cases])), (aQ_heard, .inl (cI, 256, .inl Q_heard)), (aQ_fewest, .inl (cI, 256, .inl Q_fewest))] → va_S A s.heap H locs → lv_has ls 3 [(0, .ref aQ), (1, .int x1), (2, .int x2)] → W p l e rmX3_firstSet s m args below meth c H locs 0 0 Q (F0 m 2 ls []) := by
    intro n
    induction n with
    | zero => intro x1 x2 H locs ls h; rw [fX3_firstSet_c2] at h; cases h
    | succ n2 ih2 =>
      intro x1 x2 H locs ls h hP hD hS hl
      rw [fX3_firstSet_c2] at h
      refine lv_iload_n hx hb dX3_firstSet_2 rfl (lv_at hl 2 rfl) ?_
      refine lv_iload_n hx hb dX3_firstSet_3 rfl (lv_at hl 1 rfl) ?_
      refine lv_icmp_gt (tgt := 45) hx hb dX3_firstSet_4 (by decide) (fun c301 => ?_) (fun c301 => ?_)
      · have h := ift c301 h
        refine lv_iconst (v := 0) hx hb dX3_firstSet_45 (by decide) ?_
        obtain rfl := sj1 h
        exact hret _ _ _ _ _ rfl rfl hP hD hS dX3_firstSet_46
      · have h := ifn c301 h
        refine lv_iload_n hx hb dX3_firstSet_7 rfl (lv_at hl 2 rfl) ?_
        refine lv_iload_n hx hb dX3_firstSet_8 rfl (lv_at hl 1 rfl) ?_
        refine lv_iconst (v := -1) hx hb dX3_firstSet_9 (by decide) ?_
        refine lv_ixor hx hb dX3_firstSet_10 ?_
        refine lv_iand hx hb dX3_firstSet_11 ?_
        refine lv_if_ne (tgt := 39) hx hb dX3_firstSet_12 (by decide) (fun c302 => ?_) (fun c302 => ?_)
        · have h := ifn c302 h
          refine lv_iinc (v := x2 + 1) (lv' := [(2, .int (x2 + 1)), (0, .ref aQ), (1, .int x1)]) hx hb dX3_firstSet_39 hl (k := 2) rfl rfl (by decide) rfl (fun ls hl => ?_)
          refine lv_goto (tgt := 2) hx hb dX3_firstSet_42 (by decide) ?_
          exact ih2 x1 (x2 + 1) _ _ _ h hP hD hS (lv_sub hl [1, 2, 0] rfl)
        · have h := ift c302 h
          refine lv_aload_n hx hb dX3_firstSet_15 rfl (lv_at hl 0 rfl) ?_
          refine ka_get (v := .ref aQ_fewest) (C := RX3) (T := TX3) (Nf := 4) (ref := "BeepNet$Search") hx hb hts hiX3 hown hK hP 0 rfl rfl 1 (by decide) k_0 rfl rfl dX3_firstSet_16 ?_
          refine lv_iload_n hx hb dX3_firstSet_19 rfl (lv_at hl 1 rfl) ?_
          refine lv_aload_n hx hb dX3_firstSet_20 rfl (lv_at hl 0 rfl) ?_
          refine ka_get (v := .ref aQ_heard) (C := RX3) (T := TX3) (Nf := 4) (ref := "BeepNet$Search") hx hb hts hiX3 hown hK hP 0 rfl rfl 0 (by decide) k_1 rfl rfl dX3_firstSet_21 ?_
          refine lv_iload_n hx hb dX3_firstSet_24 rfl (lv_at hl 2 rfl) ?_
          obtain ⟨v303, ev303, hn304, h⟩ := ldx_s h
          refine ka_ild hx hb hK hP 1 0 ev303 rfl rfl hn304 dX3_firstSet_25 ?_
          refine lv_ior hx hb dX3_firstSet_26 ?_
          obtain ⟨v305, ev305, hn306, h⟩ := ldx_s h
          refine ka_ild hx hb hK hP 2 0 ev305 rfl rfl hn306 dX3_firstSet_27 ?_
          refine lv_aload_n hx hb dX3_firstSet_28 rfl (lv_at hl 0 rfl) ?_
          refine ka_get (v := .ref aQ_fewest) (C := RX3) (T := TX3) (Nf := 4) (ref := "BeepNet$Search") hx hb hts hiX3 hown hK hP 0 rfl rfl 1 (by decide) k_0 rfl rfl dX3_firstSet_29 ?_
          refine lv_iload_n hx hb dX3_firstSet_32 rfl (lv_at hl 1 rfl) ?_
          obtain ⟨v307, ev307, hn308, h⟩ := ldx_s h
          refine ka_ild hx hb hK hP 2 0 ev307 rfl rfl hn308 dX3_firstSet_33 ?_
          refine lv_icmp_ge (tgt := 39) hx hb dX3_firstSet_34 (by decide) (fun c309 => ?_) (fun c309 => ?_)
          · have h := ift c309 h
            refine lv_iinc (v := x2 + 1) (lv' := [(2, .int (x2 + 1)), (0, .ref aQ), (1, .int x1)]) hx hb dX3_firstSet_39 hl (k := 2) rfl rfl (by decide) rfl (fun ls hl => ?_)
            refine lv_goto (tgt := 2) hx hb dX3_firstSet_42 (by decide) ?_
            exact ih2 x1 (x2 + 1) _ _ _ h hP hD hS (lv_sub hl [1, 2, 0] rfl)
          · have h := ifn c309 h
            refine lv_iload_n hx hb dX3_firstSet_37 rfl (lv_at hl 2 rfl) ?_
            obtain rfl := sj1 h
            exact hret _ _ _ _ _ rfl rfl hP hD hS dX3_firstSet_38
  unfold fX3_firstSet at h
  refine lv_iconst (v := 1) hx hb dX3_firstSet_0 (by decide) ?_
  refine lv_istore_n (lv' := [(2, .int 1), (0, .ref aQ), (1, .int p0)]) hx hb dX3_firstSet_1 rfl hl (by decide) rfl (fun ls hl => ?_)
  exact hC2 FU p0 1 _ _ _ h hP hD hS (lv_sub hl [1, 2, 0] rfl)
set_option maxHeartbeats 4000000 in
set_option maxRecDepth 100000 in
theorem c_X3_leavesSomeUntold (l : Launch) (dC : Nat → ClassId) (dI : Nat → Nat → Nat) (cI cJ cZ cA : ClassId) (aQ aQ_heard aQ_fewest aQ_spent aQ_cases : Nat) (Q_heard : Nat → Int32) (Q_spent : Nat → Int32) (p0 : Int32) (p1 : Int32) (p2 : Int32) (p3 : Int32) (rr : Int32) (Q_spent_z : Nat → Int32) (h : fX3_leavesSomeUntold Q_heard Q_spent p0 p1 p2 p3 = some (rr, Q_spent_z)) : Cti l yX3_leavesSomeUntold wsX3_leavesSomeUntold rmX3_leavesSomeUntold (dC, dI) (tyL cI cJ cZ cA) [(aQ, .inr (3, [.ref aQ_heard, .ref aQ_fewest, .ref aQ_spent, .ref aQ_cases])), (aQ_heard, .inl (cI, 256, .inl Q_heard)), (aQ_spent, .inl (cI, 256, .inl Q_spent))] [(aQ, .inr (3, [.ref aQ_heard, .ref aQ_fewest, .ref aQ_spent, .ref aQ_cases])), (aQ_heard, .inl (cI, 256, .inl Q_heard)), (aQ_spent, .inl (cI, 256, .inl Q_spent_z))] [.ref aQ, .int p0, .int p1, .int p2, .int p3] rr := by
  refine ct_int (ty := .boolean) (cc := cX3_leavesSomeUntold) (maxL := 9) (by decide) rfl (Nat.le_of_ble_eq_true rfl) ?_
  intro p e s m args below meth c A Q ls hx hb hml hown hts hA hK hP hD hS hl hret
  have hl : lv_has ls 9 [(0, .ref aQ), (1, .int p0), (2, .int p1), (3, .int p2), (4, .int p3)] := hl
  have k_0 := hts (.fieldLink RX3 18 "BeepNet$Search" "spent" "[I") (by decide +kernel)
  have k_1 := hts (.fieldLink RX3 9 "BeepNet$Search" "heard" "[I") (by decide +kernel)
  have k_2 := hts (.methodLink RX3 39 Lib.Math.min.name) (by decide +kernel)
  have k_3 := hts (.static Lib.Math.min.name) (by decide +kernel)
  have k_4 := hts (.initialized "java/lang/Math") (by decide +kernel)
  have k_5 := hts (.code Lib.Math.min.name Lib.Math.min.code 2 (some .int)) (by decide +kernel)
  have hiX3 : ∀ w ∈ u_ws RX3 TX3 4, w ∈ wsX3_leavesSomeUntold := fun w hw => List.mem_cons_of_mem _ (List.mem_append_right _ hw)
  have hC8 : ∀ (n : Nat) (Q_spent : Nat → Int32) (x1 : Int32) (x2 : Int32) (x3 : Int32) (x4 : Int32) (x5 : Int32) (x6 : Int32) (H : Heap) (locs : List Loc) (ls : Array Slot), fX3_leavesSomeUntold_c8 Q_heard n Q_spent x1 x2 x3 x4 x5 x6 = some (rr, Q_spent_z) → va_P (dC, dI) vwCl [(aQ, .inr (3, [.ref aQ_heard, .ref aQ_fewest, .ref aQ_spent, .ref aQ_cases])), (aQ_heard, .inl (cI, 256, .inl Q_heard)), (aQ_spent, .inl (cI, 256, .inl Q_spent))] H → va_D A [(aQ, .inr (3, [.ref aQ_heard, .ref aQ_fewest, .ref aQ_spent, .ref aQ_cases])), (aQ_heard, .inl (cI, 256, .inl Q_heard)), (aQ_spent, .inl (cI, 256, .inl Q_spent))] → va_S A s.heap H locs → lv_has ls 9 [(0, .ref aQ), (1, .int x1), (2, .int x2), (3, .int x3), (4, .int x4), (5, .int x5), (6, .int x6)] → W p l e rmX3_leavesSomeUntold s m args below meth c H locs 0 0 Q (F0 m 8 ls []) := by
    intro n
    induction n with
    | zero => intro Q_spent x1 x2 x3 x4 x5 x6 H locs ls h; rw [fX3_leavesSomeUntold_c8] at h; cases h
    | succ n8 ih8 =>
      have hC99 : ∀ (Q_spent : Nat → Int32) (x1 : Int32) (x2 : Int32) (x3 : Int32) (x4 : Int32) (x6 : Int32) (H : Heap) (locs : List Loc) (ls : Array Slot), fX3_leavesSomeUntold_c99 Q_heard (fX3_leavesSomeUntold_c8 Q_heard n8) Q_spent x1 x2 x3 x4 x6 = some (rr, Q_spent_z) → va_P (dC, dI) vwCl [(aQ, .inr (3, [.ref aQ_heard, .ref aQ_fewest, .ref aQ_spent, .ref aQ_cases])), (aQ_heard, .inl (cI, 256, .inl Q_heard)), (aQ_spent, .inl (cI, 256, .inl Q_spent))] H → va_D A [(aQ, .inr (3, [.ref aQ_heard, .ref aQ_fewest, .ref aQ_spent, .ref aQ_cases])), (aQ_heard, .inl (cI, 256, .inl Q_heard)), (aQ_spent, .inl (cI, 256, .inl Q_spent))] → va_S A s.heap H locs → lv_has ls 9 [(0, .ref aQ), (1, .int x1), (2, .int x2), (3, .int x3), (4, .int x4), (6, .int x6)] → W p l e rmX3_leavesSomeUntold s m args below meth c H locs 0 0 Q (F0 m 99 ls []) := by
        intro Q_spent x1 x2 x3 x4 x6 H locs ls h hP hD hS hl
        unfold fX3_leavesSomeUntold_c99 at h
        refine lv_iconst (v := 1) hx hb dX3_leavesSomeUntold_99 (by decide) ?_
        refine lv_goto (tgt := 104) hx hb dX3_leavesSomeUntold_100 (by decide) ?_
        refine lv_istore (lv' := [(5, .int 1), (0, .ref aQ), (1, .int x1), (2, .int x2), (3, .int x3), (4, .int x4), (6, .int x6)]) hx hb dX3_leavesSomeUntold_104 hl (by decide) rfl (fun ls hl => ?_)
        refine lv_iinc (v := x6 + (-1)) (lv' := [(6, .int (x6 + (-1))), (5, .int 1), (0, .ref aQ), (1, .int x1), (2, .int x2), (3, .int x3), (4, .int x4)]) hx hb dX3_leavesSomeUntold_106 hl (k := 6) rfl rfl (by decide) rfl (fun ls hl => ?_)
        refine lv_goto (tgt := 8) hx hb dX3_leavesSomeUntold_109 (by decide) ?_
        exact ih8 Q_spent x1 x2 x3 x4 1 (x6 + (-1)) _ _ _ h hP hD hS (lv_sub hl [2, 3, 4, 5, 6, 1, 0] rfl)
      have hC81 : ∀ (Q_spent : Nat → Int32) (x1 : Int32) (x2 : Int32) (x3 : Int32) (x4 : Int32) (x5 : Int32) (x6 : Int32) (x7 : Int32) (x8 : Int32) (H : Heap) (locs : List Loc) (ls : Array Slot), fX3_leavesSomeUntold_c81 Q_heard (fX3_leavesSomeUntold_c8 Q_heard n8) Q_spent x1 x2 x3 x4 x5 x6 x7 x8 = some (rr, Q_spent_z) → va_P (dC, dI) vwCl [(aQ, .inr (3, [.ref aQ_heard, .ref aQ_fewest, .ref aQ_spent, .ref aQ_cases])), (aQ_heard, .inl (cI, 256, .inl Q_heard)), (aQ_spent, .inl (cI, 256, .inl Q_spent))] H → va_D A [(aQ, .inr (3, [.ref aQ_heard, .ref aQ_fewest, .ref aQ_spent, .ref aQ_cases])), (aQ_heard, .inl (cI, 256, .inl Q_heard)), (aQ_spent, .inl (cI, 256, .inl Q_spent))] → va_S A s.heap H locs → lv_has ls 9 [(0, .ref aQ), (1, .int x1), (2, .int x2), (3, .int x3), (4, .int x4), (5, .int x5), (6, .int x6), (7, .int x7), (8, .int x8)] → W p l e rmX3_leavesSomeUntold s m args below meth c H locs 0 0 Q (F0 m 81 ls []) := by
        intro Q_spent x1 x2 x3 x4 x5 x6 x7 x8 H locs ls h hP hD hS hl
        unfold fX3_leavesSomeUntold_c81 at h
        refine lv_iload hx hb dX3_leavesSomeUntold_81 (lv_at hl 5 rfl) ?_
        refine lv_if_ne (tgt := 99) hx hb dX3_leavesSomeUntold_83 (by decide) (fun c8201 => ?_) (fun c8201 => ?_)
        · have h := ifn c8201 h
          exact hC99 Q_spent x1 x2 x3 x4 x6 _ _ _ h hP hD hS (lv_sub hl [0, 1, 2, 3, 4, 6] rfl)
        · have h := ift c8201 h
          refine lv_iload hx hb dX3_leavesSomeUntold_86 (lv_at hl 8 rfl) ?_
          refine lv_iload_n hx hb dX3_leavesSomeUntold_88 rfl (lv_at hl 2 rfl) ?_
          refine lv_icmp_ne (tgt := 99) hx hb dX3_leavesSomeUntold_89 (by decide) (fun c8202 => ?_) (fun c8202 => ?_)
          · have h := ifn c8202 h
            exact hC99 Q_spent x1 x2 x3 x4 x6 _ _ _ h hP hD hS (lv_sub hl [0, 1, 2, 3, 4, 6] rfl)
          · have h := ift c8202 h
            refine lv_iload hx hb dX3_leavesSomeUntold_92 (lv_at hl 7 rfl) ?_
            refine lv_iload hx hb dX3_leavesSomeUntold_94 (lv_at hl 4 rfl) ?_
            refine lv_icmp_ge (tgt := 103) hx hb dX3_leavesSomeUntold_96 (by decide) (fun c8203 => ?_) (fun c8203 => ?_)
            · have h := ift c8203 h
              refine lv_iconst (v := 0) hx hb dX3_leavesSomeUntold_103 (by decide) ?_
              refine lv_istore (lv' := [(5, .int 0), (0, .ref aQ), (1, .int x1), (2, .int x2), (3, .int x3), (4, .int x4), (6, .int x6), (7, .int x7), (8, .int x8)]) hx hb dX3_leavesSomeUntold_104 hl (by decide) rfl (fun ls hl => ?_)
              refine lv_iinc (v := x6 + (-1)) (lv' := [(6, .int (x6 + (-1))), (5, .int 0), (0, .ref aQ), (1, .int x1), (2, .int x2), (3, .int x3), (4, .int x4), (7, .int x7), (8, .int x8)]) hx hb dX3_leavesSomeUntold_106 hl (k := 6) rfl rfl (by decide) rfl (fun ls hl => ?_)
              refine lv_goto (tgt := 8) hx hb dX3_leavesSomeUntold_109 (by decide) ?_
              exact ih8 Q_spent x1 x2 x3 x4 0 (x6 + (-1)) _ _ _ h hP hD hS (lv_sub hl [2, 3, 4, 5, 6, 1, 0] rfl)
            · have h := ifn c8203 h
              exact hC99 Q_spent x1 x2 x3 x4 x6 _ _ _ h hP hD hS (lv_sub hl [0, 1, 2, 3, 4, 6] rfl)
      intro Q_spent x1 x2 x3 x4 x5 x6 H locs ls h hP hD hS hl
      rw [fX3_leavesSomeUntold_c8] at h
      refine lv_iload hx hb dX3_leavesSomeUntold_8 (lv_at hl 6 rfl) ?_
      refine lv_iload_n hx hb dX3_leavesSomeUntold_10 rfl (lv_at hl 1 rfl) ?_
      refine lv_icmp_lt (tgt := 112) hx hb dX3_leavesSomeUntold_11 (by decide) (fun c901 => ?_) (fun c901 => ?_)
      · have h := ift c901 h
        refine lv_iload hx hb dX3_leavesSomeUntold_112 (lv_at hl 5 rfl) ?_
        obtain ⟨hz902, h⟩ := zrx_s h
        obtain ⟨rfl, rfl⟩ := sj2 h
        exact hret _ _ _ _ _ rfl hz902 hP hD hS dX3_leavesSomeUntold_114
      · have h := ifn c901 h
        refine lv_aload_n hx hb dX3_leavesSomeUntold_14 rfl (lv_at hl 0 rfl) ?_
        refine ka_get (v := .ref aQ_spent) (C := RX3) (T := TX3) (Nf := 4) (ref := "BeepNet$Search") hx hb hts hiX3 hown hK hP 0 rfl rfl 2 (by decide) k_0 rfl rfl dX3_leavesSomeUntold_15 ?_
        refine lv_iload hx hb dX3_leavesSomeUntold_18 (lv_at hl 6 rfl) ?_
        obtain ⟨v903, ev903, hn904, h⟩ := ldx_s h
        refine ka_ild hx hb hK hP 2 0 ev903 rfl rfl hn904 dX3_leavesSomeUntold_20 ?_
        refine lv_istore (lv' := [(7, .int v903), (0, .ref aQ), (1, .int x1), (2, .int x2), (3, .int x3), (4, .int x4), (5, .int x5), (6, .int x6)]) hx hb dX3_leavesSomeUntold_21 hl (by decide) rfl (fun ls hl => ?_)
        refine lv_iload hx hb dX3_leavesSomeUntold_23 (lv_at hl 0 rfl) ?_
        refine lv_iload hx hb dX3_leavesSomeUntold_25 (lv_at hl 5 rfl) ?_
        refine lv_icmp_gt (tgt := 106) hx hb dX3_leavesSomeUntold_27 (by decide) (fun c905 => ?_) (fun c905 => ?_)
        · have h := ift c905 h
          refine lv_iinc (v := x6 + (-1)) (lv' := [(6, .int (x6 + (-1))), (7, .int v903), (0, .ref aQ), (1, .int x1), (2, .int x2), (3, .int x3), (4, .int x4), (5, .int x5)]) hx hb dX3_leavesSomeUntold_106 hl (k := 7) rfl rfl (by decide) rfl (fun ls hl => ?_)
          refine lv_goto (tgt := 8) hx hb dX3_leavesSomeUntold_109 (by decide) ?_
          exact ih8 Q_spent x1 x2 x3 x4 x5 (x6 + (-1)) _ _ _ h hP hD hS (lv_sub hl [2, 3, 4, 5, 6, 7, 0] rfl)
        · have h := ifn c905 h
          refine lv_iload hx hb dX3_leavesSomeUntold_30 (lv_at hl 7 rfl) ?_
          refine lv_aload_n hx hb dX3_leavesSomeUntold_32 rfl (lv_at hl 1 rfl) ?_
          refine ka_get (v := .ref aQ_heard) (C := RX3) (T := TX3) (Nf := 4) (ref := "BeepNet$Search") hx hb hts hiX3 hown hK hP 0 rfl rfl 0 (by decide) k_1 rfl rfl dX3_leavesSomeUntold_33 ?_
          refine lv_iload hx hb dX3_leavesSomeUntold_36 (lv_at hl 7 rfl) ?_
          refine lv_iload_n hx hb dX3_leavesSomeUntold_38 rfl (lv_at hl 4 rfl) ?_
          refine lv_iand hx hb dX3_leavesSomeUntold_39 ?_
          obtain ⟨v906, ev906, hn907, h⟩ := ldx_s h
          refine ka_ild hx hb hK hP 1 0 ev906 rfl rfl hn907 dX3_leavesSomeUntold_40 ?_
          refine lv_ior hx hb dX3_leavesSomeUntold_41 ?_
          refine lv_istore (lv' := [(8, .int (x6 ||| v906)), (7, .int v903), (0, .ref aQ), (1, .int x1), (2, .int x2), (3, .int x3), (4, .int x4), (5, .int x5), (6, .int x6)]) hx hb dX3_leavesSomeUntold_42 hl (by decide) rfl (fun ls hl => ?_)
          refine lv_iload hx hb dX3_leavesSomeUntold_44 (lv_at hl 0 rfl) ?_
          refine lv_iload hx hb dX3_leavesSomeUntold_46 (lv_at hl 8 rfl) ?_
          refine lv_icmp_eq (tgt := 81) hx hb dX3_leavesSomeUntold_48 (by decide) (fun c908 => ?_) (fun c908 => ?_)
          · have h := ift c908 h
            exact hC81 Q_spent x1 x2 x3 x4 x5 x6 v903 (x6 ||| v906) _ _ _ h hP hD hS (lv_sub hl [2, 3, 4, 5, 6, 7, 8, 1, 0] rfl)
          · have h := ifn c908 h
            refine lv_aload_n hx hb dX3_leavesSomeUntold_51 rfl (lv_at hl 2 rfl) ?_
            refine ka_get (v := .ref aQ_spent) (C := RX3) (T := TX3) (Nf := 4) (ref := "BeepNet$Search") hx hb hts hiX3 hown hK hP 0 rfl rfl 2 (by decide) k_0 rfl rfl dX3_leavesSomeUntold_52 ?_
            refine lv_iload hx hb dX3_leavesSomeUntold_55 (lv_at hl 0 rfl) ?_
            refine lv_aload_n hx hb dX3_leavesSomeUntold_57 rfl (lv_at hl 2 rfl) ?_
            refine ka_get (v := .ref aQ_spent) (C := RX3) (T := TX3) (Nf := 4) (ref := "BeepNet$Search") hx hb hts hiX3 hown hK hP 0 rfl rfl 2 (by decide) k_0 rfl rfl dX3_leavesSomeUntold_58 ?_
            refine lv_iload hx hb dX3_leavesSomeUntold_61 (lv_at hl 0 rfl) ?_
            obtain ⟨v909, ev909, hn910, h⟩ := ldx_s h
            refine ka_ild hx hb hK hP 2 0 ev909 rfl rfl hn910 dX3_leavesSomeUntold_63 ?_
            refine lv_iload hx hb dX3_leavesSomeUntold_64 (lv_at hl 1 rfl) ?_
            obtain ⟨v911, ev911, h⟩ := bnd_s h
            refine va_mmin hx hb (by rw [hml]; exact hl.1.symm) hown k_2 k_3 k_4 k_5 (Nat.le_of_ble_eq_true rfl) (Nat.le_of_ble_eq_true rfl) (Nat.zero_le _) (Nat.zero_le _) dX3_leavesSomeUntold_66 ?_
            refine kn_i ev911 ?_
            obtain ⟨g912, eg912, hn913, h⟩ := sti_s h
            refine ka_ist (w1 := [(aQ, .inr (3, [.ref aQ_heard, .ref aQ_fewest, .ref aQ_spent, .ref aQ_cases])), (aQ_heard, .inl (cI, 256, .inl Q_heard)), (aQ_spent, .inl (cI, 256, .inl g912))]) hx hb hK hP hD hS 2 0 eg912 rfl rfl hn913 dX3_leavesSomeUntold_69 rfl (fun H locs hP hD hS => ?_)
            refine lv_aload_n hx hb dX3_leavesSomeUntold_70 rfl (lv_at hl 2 rfl) ?_
            refine ka_get (v := .ref aQ_spent) (C := RX3) (T := TX3) (Nf := 4) (ref := "BeepNet$Search") hx hb hts hiX3 hown hK hP 0 rfl rfl 2 (by decide) k_0 rfl rfl dX3_leavesSomeUntold_71 ?_
            refine lv_iload hx hb dX3_leavesSomeUntold_74 (lv_at hl 8 rfl) ?_
            refine lv_iload hx hb dX3_leavesSomeUntold_76 (lv_at hl 1 rfl) ?_
            refine lv_iconst (v := 1) hx hb dX3_leavesSomeUntold_78 (by decide) ?_
            refine lv_iadd hx hb dX3_leavesSomeUntold_79 ?_
            obtain ⟨g914, eg914, hn915, h⟩ := sti_s h
            refine ka_ist (w1 := [(aQ, .inr (3, [.ref aQ_heard, .ref aQ_fewest, .ref aQ_spent, .ref aQ_cases])), (aQ_heard, .inl (cI, 256, .inl Q_heard)), (aQ_spent, .inl (cI, 256, .inl g914))]) hx hb hK hP hD hS 2 0 eg914 rfl rfl hn915 dX3_leavesSomeUntold_80 rfl (fun H locs hP hD hS => ?_)
            exact hC81 g914 x1 x2 x3 x4 x5 x6 v903 (x6 ||| v906) _ _ _ h hP hD hS (lv_sub hl [2, 3, 4, 5, 6, 7, 8, 1, 0] rfl)
  unfold fX3_leavesSomeUntold at h
  refine lv_iconst (v := 0) hx hb dX3_leavesSomeUntold_0 (by decide) ?_
  refine lv_istore (lv' := [(5, .int 0), (0, .ref aQ), (1, .int p0), (2, .int p1), (3, .int p2), (4, .int p3)]) hx hb dX3_leavesSomeUntold_1 hl (by decide) rfl (fun ls hl => ?_)
  refine lv_iload_n hx hb dX3_leavesSomeUntold_3 rfl (lv_at hl 3 rfl) ?_
  refine lv_iconst (v := 1) hx hb dX3_leavesSomeUntold_4 (by decide) ?_
  refine lv_isub hx hb dX3_leavesSomeUntold_5 ?_
  refine lv_istore (lv' := [(6, .int (p1 - (1 : Int32))), (5, .int 0), (0, .ref aQ), (1, .int p0), (2, .int p1), (3, .int p2), (4, .int p3)]) hx hb dX3_leavesSomeUntold_6 hl (by decide) rfl (fun ls hl => ?_)
  exact hC8 FU Q_spent p0 p1 p2 p3 0 (p1 - (1 : Int32)) _ _ _ h hP hD hS (lv_sub hl [2, 3, 4, 5, 6, 1, 0] rfl)
set_option maxHeartbeats 4000000 in
set_option maxRecDepth 100000 in
theorem c_X3_worstRounds (l : Launch) (dC : Nat → ClassId) (dI : Nat → Nat → Nat) (cI cJ cZ cA : ClassId) (aN aN_neighbours aT aT_rounds aQ aQ_heard aQ_fewest aQ_spent aQ_cases : Nat) (N_posts : Int32) (N_neighbours : Nat → Int32) (T_size : Int32) (T_rounds : Nat → Int32) (Q_heard : Nat → Int32) (Q_spent : Nat → Int32) (p2 : Int32) (p3 : Int32) (rr : Int32) (Q_spent_z : Nat → Int32) (h : fX3_worstRounds N_posts N_neighbours T_size T_rounds Q_heard Q_spent p2 p3 = some (rr, Q_spent_z)) : Cti l yX3_worstRounds wsX3_worstRounds rmX3_worstRounds (dC, dI) (tyL cI cJ cZ cA) [(aN, .inr (1, [.ref aN_neighbours, .int N_posts])), (aN_neighbours, .inl (cI, 8, .inl N_neighbours)), (aT, .inr (5, [.ref aT_rounds, .int T_size])), (aT_rounds, .inl (cI, 20, .inl T_rounds)), (aQ, .inr (3, [.ref aQ_heard, .ref aQ_fewest, .ref aQ_spent, .ref aQ_cases])), (aQ_heard, .inl (cI, 256, .inl Q_heard)), (aQ_spent, .inl (cI, 256, .inl Q_spent))] [(aN, .inr (1, [.ref aN_neighbours, .int N_posts])), (aN_neighbours, .inl (cI, 8, .inl N_neighbours)), (aT, .inr (5, [.ref aT_rounds, .int T_size])), (aT_rounds, .inl (cI, 20, .inl T_rounds)), (aQ, .inr (3, [.ref aQ_heard, .ref aQ_fewest, .ref aQ_spent, .ref aQ_cases])), (aQ_heard, .inl (cI, 256, .inl Q_heard)), (aQ_spent, .inl (cI, 256, .inl Q_spent_z))] [.ref aQ, .ref aN, .ref aT, .int p2, .int p3] rr := by
  refine ct_int (ty := .int) (cc := cX3_worstRounds) (maxL := 9) (by decide) rfl (Nat.le_of_ble_eq_true rfl) ?_
  intro p e s m args below meth c A Q ls hx hb hml hown hts hA hK hP hD hS hl hret
  have hl : lv_has ls 9 [(0, .ref aQ), (1, .ref aN), (2, .ref aT), (3, .int p2), (4, .int p3)] := hl
  have k_0 := hts (.constant RX3 62 (-1000000)) (by decide +kernel)
  have k_1 := hts (.fieldLink RX3 18 "BeepNet$Search" "spent" "[I") (by decide +kernel)
  have hiX3 : ∀ w ∈ u_ws RX3 TX3 4, w ∈ wsX3_worstRounds := fun w hw => List.mem_cons_of_mem _ (List.mem_append_left _ (List.mem_append_left _ (List.mem_append_right _ hw)))
  have hC44 : ∀ (n : Nat) (Q_spent : Nat → Int32) (x4 : Int32) (x5 : Int32) (x6 : Int32) (x7 : Int32) (H : Heap) (locs : List Loc) (ls : Array Slot), fX3_worstRounds_c44 N_posts N_neighbours T_size T_rounds Q_heard n Q_spent x4 x5 x6 x7 = some (rr, Q_spent_z) → va_P (dC, dI) vwCl [(aN, .inr (1, [.ref aN_neighbours, .int N_posts])), (aN_neighbours, .inl (cI, 8, .inl N_neighbours)), (aT, .inr (5, [.ref aT_rounds, .int T_size])), (aT_rounds, .inl (cI, 20, .inl T_rounds)), (aQ, .inr (3, [.ref aQ_heard, .ref aQ_fewest, .ref aQ_spent, .ref aQ_cases])), (aQ_heard, .inl (cI, 256, .inl Q_heard)), (aQ_spent, .inl (cI, 256, .inl Q_spent))] H → va_D A [(aN, .inr (1, [.ref aN_neighbours, .int N_posts])), (aN_neighbours, .inl (cI, 8, .inl N_neighbours)), (aT, .inr (5, [.ref aT_rounds, .int T_size])), (aT_rounds, .inl (cI, 20, .inl T_rounds)), (aQ, .inr (3, [.ref aQ_heard, .ref aQ_fewest, .ref aQ_spent, .ref aQ_cases])), (aQ_heard, .inl (cI, 256, .inl Q_heard)), (aQ_spent, .inl (cI, 256, .inl Q_spent))] → va_S A s.heap H locs → lv_has ls 9 [(0, .ref aQ), (1, .ref aN), (2, .ref aT), (4, .int x4), (5, .int x5), (6, .int x6), (7, .int x7)] → W p l e rmX3_worstRounds s m args below meth c H locs 0 0 Q (F0 m 44 ls []) := by
    intro n
    induction n with
    | zero => intro Q_spent x4 x5 x6 x7 H locs ls h; rw [fX3_worstRounds_c44] at h; cases h
    | succ n44 ih44 =>
      intro Q_spent x4 x5 x6 x7 H locs ls h hP hD hS hl
      rw [fX3_worstRounds_c44] at h
      refine lv_iload hx hb dX3_worstRounds_44 (lv_at hl 6 rfl) ?_
      refine lv_bipush (v := 60) hx hb dX3_worstRounds_46 (by decide) ?_
      refine lv_icmp_ge (tgt := 89) hx hb dX3_worstRounds_48 (by decide) (fun c4501 => ?_) (fun c4501 => ?_)
      · have h := ift c4501 h
        refine lv_ldc hx hb hown k_0 dX3_worstRounds_89 ?_
        obtain ⟨rfl, rfl⟩ := sj2 h
        exact hret _ _ _ _ _ rfl rfl hP hD hS dX3_worstRounds_91
      · have h := ifn c4501 h
        refine lv_aload_n hx hb dX3_worstRounds_51 rfl (lv_at hl 2 rfl) ?_
        refine lv_iload hx hb dX3_worstRounds_52 (lv_at hl 6 rfl) ?_
        refine lv_aload_n hx hb dX3_worstRounds_54 rfl (lv_at hl 1 rfl) ?_
        obtain ⟨r4502, e4503, h⟩ := bd1_s h
        refine kc_vi (rest := [.int x7, .ref aT]) (wr := [(aN_neighbours, .inl (cI, 8, .inl N_neighbours)), (aT, .inr (5, [.ref aT_rounds, .int T_size])), (aT_rounds, .inl (cI, 20, .inl T_rounds)), (aQ, .inr (3, [.ref aQ_heard, .ref aQ_fewest, .ref aQ_spent, .ref aQ_cases])), (aQ_heard, .inl (cI, 256, .inl Q_heard)), (aQ_spent, .inl (cI, 256, .inl Q_spent))]) (wF := [(aN, .inr (1, [.ref aN_neighbours, .int N_posts])), (aN_neighbours, .inl (cI, 8, .inl N_neighbours)), (aT, .inr (5, [.ref aT_rounds, .int T_size])), (aT_rounds, .inl (cI, 20, .inl T_rounds)), (aQ, .inr (3, [.ref aQ_heard, .ref aQ_fewest, .ref aQ_spent, .ref aQ_cases])), (aQ_heard, .inl (cI, 256, .inl Q_heard)), (aQ_spent, .inl (cI, 256, .inl Q_spent))]) ⟨hx, hb, hml, hown, hts⟩ (c_X1_allPosts l dC dI cI cJ cZ cA aN aN_neighbours N_posts r4502 e4503) (cwV 0 hts gX3_worstRounds_X1_allPosts rfl rfl rfl (by decide +kernel) ⟨Nat.le_of_ble_eq_true rfl, Nat.le_of_ble_eq_true rfl⟩) hK hP hD hS hA [0] [1, 2, 3, 4, 5, 6] [6, 0, 1, 2, 3, 4, 5] 0 rfl rfl rfl rfl (by decide) rfl rfl rfl rfl rfl rfl hl.1 rfl (Nat.le_of_ble_eq_true rfl) dX3_worstRounds_55 ⟨Nat.zero_le _, Nat.zero_le _⟩ (fun H locs hP hD hS => ?_)
        obtain ⟨r4504, e4505, h⟩ := bd1_s h
        refine kc_vi (rest := []) (wr := [(aN, .inr (1, [.ref aN_neighbours, .int N_posts])), (aN_neighbours, .inl (cI, 8, .inl N_neighbours)), (aQ, .inr (3, [.ref aQ_heard, .ref aQ_fewest, .ref aQ_spent, .ref aQ_cases])), (aQ_heard, .inl (cI, 256, .inl Q_heard)), (aQ_spent, .inl (cI, 256, .inl Q_spent))]) (wF := [(aN, .inr (1, [.ref aN_neighbours, .int N_posts])), (aN_neighbours, .inl (cI, 8, .inl N_neighbours)), (aT, .inr (5, [.ref aT_rounds, .int T_size])), (aT_rounds, .inl (cI, 20, .inl T_rounds)), (aQ, .inr (3, [.ref aQ_heard, .ref aQ_fewest, .ref aQ_spent, .ref aQ_cases])), (aQ_heard, .inl (cI, 256, .inl Q_heard)), (aQ_spent, .inl (cI, 256, .inl Q_spent))]) ⟨hx, hb, hml, hown, hts⟩ (c_X5_soundsOverAndOver l dC dI cI cJ cZ cA aT aT_rounds T_size T_rounds x7 r4502 r4504 e4505) (cwV 2 hts gX3_worstRounds_X5_soundsOverAndOver rfl rfl rfl (by decide +kernel) ⟨Nat.le_of_ble_eq_true rfl, Nat.le_of_ble_eq_true rfl⟩) hK hP hD hS hA [2, 3] [0, 1, 4, 5, 6] [0, 1, 5, 6, 2, 3, 4] 0 rfl rfl rfl rfl (by decide) rfl rfl rfl rfl rfl rfl hl.1 rfl (Nat.le_of_ble_eq_true rfl) dX3_worstRounds_58 ⟨Nat.zero_le _, Nat.zero_le _⟩ (fun H locs hP hD hS => ?_)
        refine lv_istore (lv' := [(8, .int r4504), (0, .ref aQ), (1, .ref aN), (2, .ref aT), (4, .int x4), (5, .int x5), (6, .int x6), (7, .int x7)]) hx hb dX3_worstRounds_61 hl (by decide) rfl (fun ls hl => ?_)
        refine lv_aload_n hx hb dX3_worstRounds_63 rfl (lv_at hl 1 rfl) ?_
        refine lv_iload hx hb dX3_worstRounds_64 (lv_at hl 5 rfl) ?_
        refine lv_iload hx hb dX3_worstRounds_66 (lv_at hl 6 rfl) ?_
        refine lv_iload hx hb dX3_worstRounds_68 (lv_at hl 0 rfl) ?_
        refine lv_iload hx hb dX3_worstRounds_70 (lv_at hl 4 rfl) ?_
        obtain ⟨r4506, Q_spent_4507, e4508, h⟩ := bd2_s h
        refine kc_vi (rest := []) (wr := [(aN, .inr (1, [.ref aN_neighbours, .int N_posts])), (aN_neighbours, .inl (cI, 8, .inl N_neighbours)), (aT, .inr (5, [.ref aT_rounds, .int T_size])), (aT_rounds, .inl (cI, 20, .inl T_rounds))]) (wF := [(aN, .inr (1, [.ref aN_neighbours, .int N_posts])), (aN_neighbours, .inl (cI, 8, .inl N_neighbours)), (aT, .inr (5, [.ref aT_rounds, .int T_size])), (aT_rounds, .inl (cI, 20, .inl T_rounds)), (aQ, .inr (3, [.ref aQ_heard, .ref aQ_fewest, .ref aQ_spent, .ref aQ_cases])), (aQ_heard, .inl (cI, 256, .inl Q_heard)), (aQ_spent, .inl (cI, 256, .inl Q_spent_4507))]) ⟨hx, hb, hml, hown, hts⟩ (c_X3_leavesSomeUntold l dC dI cI cJ cZ cA aQ aQ_heard aQ_fewest aQ_spent aQ_cases Q_heard Q_spent x5 x6 r4504 x4 r4506 Q_spent_4507 e4508) (cwV 4 hts gX3_worstRounds_X3_leavesSomeUntold rfl rfl rfl (by decide +kernel) ⟨Nat.le_of_ble_eq_true rfl, Nat.le_of_ble_eq_true rfl⟩) hK hP hD hS hA [4, 5, 6] [0, 1, 2, 3] [0, 1, 2, 3, 4, 5, 6] 0 rfl rfl rfl rfl (by decide) rfl rfl rfl rfl rfl rfl hl.1 rfl (Nat.le_of_ble_eq_true rfl) dX3_worstRounds_72 ⟨Nat.zero_le _, Nat.zero_le _⟩ (fun H locs hP hD hS => ?_)
        refine lv_if_ne (tgt := 83) hx hb dX3_worstRounds_75 (by decide) (fun c4509 => ?_) (fun c4509 => ?_)
        · have h := ifn c4509 h
          refine lv_iinc (v := x7 + 1) (lv' := [(7, .int (x7 + 1)), (8, .int r4504), (0, .ref aQ), (1, .ref aN), (2, .ref aT), (4, .int x4), (5, .int x5), (6, .int x6)]) hx hb dX3_worstRounds_83 hl (k := 7) rfl rfl (by decide) rfl (fun ls hl => ?_)
          refine lv_goto (tgt := 44) hx hb dX3_worstRounds_86 (by decide) ?_
          exact ih44 Q_spent_4507 x4 x5 x6 (x7 + 1) _ _ _ h hP hD hS (lv_sub hl [2, 3, 4, 5, 6, 7, 0] rfl)
        · have h := ift c4509 h
          refine lv_iload hx hb dX3_worstRounds_78 (lv_at hl 7 rfl) ?_
          refine lv_iconst (v := 1) hx hb dX3_worstRounds_80 (by decide) ?_
          refine lv_iadd hx hb dX3_worstRounds_81 ?_
          obtain ⟨rfl, rfl⟩ := sj2 h
          exact hret _ _ _ _ _ rfl rfl hP hD hS dX3_worstRounds_82
  unfold fX3_worstRounds at h
  refine lv_iconst (v := 1) hx hb dX3_worstRounds_0 (by decide) ?_
  refine lv_iload_n hx hb dX3_worstRounds_1 rfl (lv_at hl 3 rfl) ?_
  refine lv_ishl hx hb dX3_worstRounds_2 ?_
  obtain ⟨v1, ev1, h⟩ := bnd_s h
  refine kn_i ev1 ?_
  refine lv_istore (lv' := [(5, .int v1), (0, .ref aQ), (1, .ref aN), (2, .ref aT), (3, .int p2), (4, .int p3)]) hx hb dX3_worstRounds_3 hl (by decide) rfl (fun ls hl => ?_)
  refine lv_aload_n hx hb dX3_worstRounds_5 rfl (lv_at hl 2 rfl) ?_
  refine lv_iload hx hb dX3_worstRounds_6 (lv_at hl 0 rfl) ?_
  obtain ⟨r2, e3, h⟩ := bd1_s h
  refine kc_vi (rest := []) (wr := [(aT, .inr (5, [.ref aT_rounds, .int T_size])), (aT_rounds, .inl (cI, 20, .inl T_rounds)), (aQ, .inr (3, [.ref aQ_heard, .ref aQ_fewest, .ref aQ_spent, .ref aQ_cases])), (aQ_heard, .inl (cI, 256, .inl Q_heard)), (aQ_spent, .inl (cI, 256, .inl Q_spent))]) (wF := [(aN, .inr (1, [.ref aN_neighbours, .int N_posts])), (aN_neighbours, .inl (cI, 8, .inl N_neighbours)), (aT, .inr (5, [.ref aT_rounds, .int T_size])), (aT_rounds, .inl (cI, 20, .inl T_rounds)), (aQ, .inr (3, [.ref aQ_heard, .ref aQ_fewest, .ref aQ_spent, .ref aQ_cases])), (aQ_heard, .inl (cI, 256, .inl Q_heard)), (aQ_spent, .inl (cI, 256, .inl Q_spent))]) ⟨hx, hb, hml, hown, hts⟩ (c_X1_reachOf l dC dI cI cJ cZ cA aN aN_neighbours N_posts N_neighbours v1 r2 e3) (cwV 1 hts gX3_worstRounds_X1_reachOf rfl rfl rfl (by decide +kernel) ⟨Nat.le_of_ble_eq_true rfl, Nat.le_of_ble_eq_true rfl⟩) hK hP hD hS hA [0, 1] [2, 3, 4, 5, 6] [5, 6, 0, 1, 2, 3, 4] 0 rfl rfl rfl rfl (by decide) rfl rfl rfl rfl rfl rfl hl.1 rfl (Nat.le_of_ble_eq_true rfl) dX3_worstRounds_8 ⟨Nat.zero_le _, Nat.zero_le _⟩ (fun H locs hP hD hS => ?_)
  refine lv_istore (lv' := [(6, .int r2), (5, .int v1), (0, .ref aQ), (1, .ref aN), (2, .ref aT), (3, .int p2), (4, .int p3)]) hx hb dX3_worstRounds_11 hl (by decide) rfl (fun ls hl => ?_)
  refine lv_iload hx hb dX3_worstRounds_13 (lv_at hl 1 rfl) ?_
  refine lv_iload hx hb dX3_worstRounds_15 (lv_at hl 0 rfl) ?_
  refine lv_icmp_ne (tgt := 22) hx hb dX3_worstRounds_17 (by decide) (fun c4 => ?_) (fun c4 => ?_)
  · have h := ifn c4 h
    refine lv_aload_n hx hb dX3_worstRounds_22 rfl (lv_at hl 2 rfl) ?_
    refine ka_get (v := .ref aQ_spent) (C := RX3) (T := TX3) (Nf := 4) (ref := "BeepNet$Search") hx hb hts hiX3 hown hK hP 4 rfl rfl 2 (by decide) k_1 rfl rfl dX3_worstRounds_23 ?_
    refine lv_iload hx hb dX3_worstRounds_26 (lv_at hl 6 rfl) ?_
    refine lv_iconst (v := 1) hx hb dX3_worstRounds_28 (by decide) ?_
    refine lv_iadd hx hb dX3_worstRounds_29 ?_
    obtain ⟨g5, eg5, h⟩ := bnd_s h
    refine kc_sv (rest := []) (wr := [(aN, .inr (1, [.ref aN_neighbours, .int N_posts])), (aN_neighbours, .inl (cI, 8, .inl N_neighbours)), (aT, .inr (5, [.ref aT_rounds, .int T_size])), (aT_rounds, .inl (cI, 20, .inl T_rounds)), (aQ, .inr (3, [.ref aQ_heard, .ref aQ_fewest, .ref aQ_spent, .ref aQ_cases])), (aQ_heard, .inl (cI, 256, .inl Q_heard))]) (wF := [(aN, .inr (1, [.ref aN_neighbours, .int N_posts])), (aN_neighbours, .inl (cI, 8, .inl N_neighbours)), (aT, .inr (5, [.ref aT_rounds, .int T_size])), (aT_rounds, .inl (cI, 20, .inl T_rounds)), (aQ, .inr (3, [.ref aQ_heard, .ref aQ_fewest, .ref aQ_spent, .ref aQ_cases])), (aQ_heard, .inl (cI, 256, .inl Q_heard)), (aQ_spent, .inl (cI, 256, .inl g5))]) ⟨hx, hb, hml, hown, hts⟩ (c_J7_fill_53178 l dC dI cI cJ cZ cA aQ_spent 256 Q_spent (p3 + (1 : Int32)) g5 (by decide) eg5) (va_cwS 2 hts gX3_worstRounds_J7_fill_53178 rfl rfl rfl (by decide +kernel) ⟨Nat.le_of_ble_eq_true rfl, Nat.le_of_ble_eq_true rfl⟩) hK hP hD hS hA [6] [0, 1, 2, 3, 4, 5] [0, 1, 2, 3, 4, 5, 6] rfl rfl rfl rfl (by decide) rfl rfl rfl hl.1 rfl (Nat.le_of_ble_eq_true rfl) dX3_worstRounds_30 ⟨Nat.zero_le _, Nat.zero_le _⟩ (fun H locs hP hD hS => ?_)
    refine lv_aload_n hx hb dX3_worstRounds_33 rfl (lv_at hl 2 rfl) ?_
    refine ka_get (v := .ref aQ_spent) (C := RX3) (T := TX3) (Nf := 4) (ref := "BeepNet$Search") hx hb hts hiX3 hown hK hP 4 rfl rfl 2 (by decide) k_1 rfl rfl dX3_worstRounds_34 ?_
    refine lv_iload hx hb dX3_worstRounds_37 (lv_at hl 1 rfl) ?_
    refine lv_iconst (v := 0) hx hb dX3_worstRounds_39 (by decide) ?_
    obtain ⟨g6, eg6, hn7, h⟩ := sti_s h
    refine ka_ist (w1 := [(aN, .inr (1, [.ref aN_neighbours, .int N_posts])), (aN_neighbours, .inl (cI, 8, .inl N_neighbours)), (aT, .inr (5, [.ref aT_rounds, .int T_size])), (aT_rounds, .inl (cI, 20, .inl T_rounds)), (aQ, .inr (3, [.ref aQ_heard, .ref aQ_fewest, .ref aQ_spent, .ref aQ_cases])), (aQ_heard, .inl (cI, 256, .inl Q_heard)), (aQ_spent, .inl (cI, 256, .inl g6))]) hx hb hK hP hD hS 6 0 eg6 rfl rfl hn7 dX3_worstRounds_40 rfl (fun H locs hP hD hS => ?_)
    refine lv_iconst (v := 0) hx hb dX3_worstRounds_41 (by decide) ?_
    refine lv_istore (lv' := [(7, .int 0), (6, .int r2), (5, .int v1), (0, .ref aQ), (1, .ref aN), (2, .ref aT), (3, .int p2), (4, .int p3)]) hx hb dX3_worstRounds_42 hl (by decide) rfl (fun ls hl => ?_)
    exact hC44 FU g6 p3 v1 r2 0 _ _ _ h hP hD hS (lv_sub hl [3, 4, 5, 7, 2, 1, 0] rfl)
  · have h := ift c4 h
    refine lv_iconst (v := 0) hx hb dX3_worstRounds_20 (by decide) ?_
    obtain ⟨rfl, rfl⟩ := sj2 h
    exact hret _ _ _ _ _ rfl rfl hP hD hS dX3_worstRounds_21
