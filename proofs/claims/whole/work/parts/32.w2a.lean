set_option maxHeartbeats 4000000 in
set_option maxRecDepth 100000 in
theorem c_X2_size (l : Launch) (dC : Nat → ClassId) (dI : Nat → Nat → Nat) (cI cJ cZ cA : ClassId) (aR aR_tape aR_rounds : Nat) (R_length : Int32) (R_roundsRead : Int32) (R_token : Int32) (R_start : Int32) (R_behind : Int32) (R_number : Int32) (rr : Int32) (h : fX2_size R_length = some rr) : Cti l yX2_size wsX2_size rmX2_size (dC, dI) (tyL cI cJ cZ cA) [(aR, .inr (2, [.ref aR_tape, .ref aR_rounds, .int R_length, .int R_roundsRead, .int R_token, .int R_start, .int R_behind, .int R_number]))] [(aR, .inr (2, [.ref aR_tape, .ref aR_rounds, .int R_length, .int R_roundsRead, .int R_token, .int R_start, .int R_behind, .int R_number]))] [.ref aR] rr := by
  refine ct_int (ty := .int) (cc := cX2_size) (maxL := 1) (by decide) rfl (Nat.le_of_ble_eq_true rfl) ?_
  intro p e s m args below meth c A Q ls hx hb hml hown hts hA hK hP hD hS hl hret
  have hl : lv_has ls 1 [(0, .ref aR)] := hl
  have k_0 := hts (.fieldLink RX2 18 "BeepNet$Reader" "length" "I") (by decide +kernel)
  have hiX2 : ∀ w ∈ u_ws RX2 TX2 8, w ∈ wsX2_size := fun w hw => List.mem_cons_of_mem _ (List.mem_append_right _ hw)
  unfold fX2_size at h
  refine lv_aload_n hx hb dX2_size_0 rfl (lv_at hl 0 rfl) ?_
  refine ka_get (v := .int R_length) (C := RX2) (T := TX2) (Nf := 8) (ref := "BeepNet$Reader") hx hb hts hiX2 hown hK hP 0 rfl rfl 2 (by decide) k_0 rfl rfl dX2_size_1 ?_
  obtain rfl := sj1 h
  exact hret _ _ _ _ _ rfl rfl hP hD hS dX2_size_4
set_option maxHeartbeats 4000000 in
set_option maxRecDepth 100000 in
theorem c_X2_hasRoom (l : Launch) (dC : Nat → ClassId) (dI : Nat → Nat → Nat) (cI cJ cZ cA : ClassId) (aR aR_tape aR_rounds : Nat) (R_length : Int32) (R_roundsRead : Int32) (R_token : Int32) (R_start : Int32) (R_behind : Int32) (R_number : Int32) (p0 : Int32) (rr : Int32) (h : fX2_hasRoom R_length p0 = some rr) : Cti l yX2_hasRoom wsX2_hasRoom rmX2_hasRoom (dC, dI) (tyL cI cJ cZ cA) [(aR, .inr (2, [.ref aR_tape, .ref aR_rounds, .int R_length, .int R_roundsRead, .int R_token, .int R_start, .int R_behind, .int R_number]))] [(aR, .inr (2, [.ref aR_tape, .ref aR_rounds, .int R_length, .int R_roundsRead, .int R_token, .int R_start, .int R_behind, .int R_number]))] [.ref aR, .int p0] rr := by
  refine ct_int (ty := .boolean) (cc := cX2_hasRoom) (maxL := 2) (by decide) rfl (Nat.le_of_ble_eq_true rfl) ?_
  intro p e s m args below meth c A Q ls hx hb hml hown hts hA hK hP hD hS hl hret
  have hl : lv_has ls 2 [(0, .ref aR), (1, .int p0)] := hl
  have k_0 := hts (.fieldLink RX2 18 "BeepNet$Reader" "length" "I") (by decide +kernel)
  have hiX2 : ∀ w ∈ u_ws RX2 TX2 8, w ∈ wsX2_hasRoom := fun w hw => List.mem_cons_of_mem _ (List.mem_append_right _ hw)
  unfold fX2_hasRoom at h
  refine lv_iload_n hx hb dX2_hasRoom_0 rfl (lv_at hl 1 rfl) ?_
  refine lv_sipush (v := 300) hx hb dX2_hasRoom_1 (by decide) ?_
  refine lv_aload_n hx hb dX2_hasRoom_4 rfl (lv_at hl 0 rfl) ?_
  refine ka_get (v := .int R_length) (C := RX2) (T := TX2) (Nf := 8) (ref := "BeepNet$Reader") hx hb hts hiX2 hown hK hP 0 rfl rfl 2 (by decide) k_0 rfl rfl dX2_hasRoom_5 ?_
  refine lv_isub hx hb dX2_hasRoom_8 ?_
  refine lv_icmp_gt (tgt := 16) hx hb dX2_hasRoom_9 (by decide) (fun c1 => ?_) (fun c1 => ?_)
  · have h := ift c1 h
    refine lv_iconst (v := 0) hx hb dX2_hasRoom_16 (by decide) ?_
    obtain rfl := sj1 h
    exact hret _ _ _ _ _ rfl rfl hP hD hS dX2_hasRoom_17
  · have h := ifn c1 h
    refine lv_iconst (v := 1) hx hb dX2_hasRoom_12 (by decide) ?_
    refine lv_goto (tgt := 17) hx hb dX2_hasRoom_13 (by decide) ?_
    obtain rfl := sj1 h
    exact hret _ _ _ _ _ rfl rfl hP hD hS dX2_hasRoom_17
set_option maxHeartbeats 4000000 in
set_option maxRecDepth 100000 in
theorem c_X2_take (l : Launch) (dC : Nat → ClassId) (dI : Nat → Nat → Nat) (cI cJ cZ cA : ClassId) (aR aR_tape aR_rounds : Nat) (R_length : Int32) (R_roundsRead : Int32) (R_token : Int32) (R_start : Int32) (R_behind : Int32) (R_number : Int32) (R_tape : Nat → Int32) (p0 : Int64) (p1 : Int32) (rr : Int32) (R_length_z : Int32) (R_tape_z : Nat → Int32) (h : fX2_take R_length R_tape p0 p1 = some (rr, R_length_z, R_tape_z)) : Cti l yX2_take wsX2_take rmX2_take (dC, dI) (tyL cI cJ cZ cA) [(aR, .inr (2, [.ref aR_tape, .ref aR_rounds, .int R_length, .int R_roundsRead, .int R_token, .int R_start, .int R_behind, .int R_number])), (aR_tape, .inl (cI, 300, .inl R_tape))] [(aR, .inr (2, [.ref aR_tape, .ref aR_rounds, .int R_length_z, .int R_roundsRead, .int R_token, .int R_start, .int R_behind, .int R_number])), (aR_tape, .inl (cI, 300, .inl R_tape_z))] [.ref aR, .long p0, .int p1] rr := by
  refine ct_int (ty := .int) (cc := cX2_take) (maxL := 5) (by decide) rfl (Nat.le_of_ble_eq_true rfl) ?_
  intro p e s m args below meth c A Q ls hx hb hml hown hts hA hK hP hD hS hl hret
  have hl : lv_has ls 5 [(0, .ref aR), (1, .long p0), (3, .int p1)] := hl
  have k_0 := hts (.fieldLink RX2 18 "BeepNet$Reader" "length" "I") (by decide +kernel)
  have k_1 := hts (.fieldLink RX2 9 "BeepNet$Reader" "tape" "[I") (by decide +kernel)
  have k_2 := hts (.constantLong RX2 22 (255)) (by decide +kernel)
  have hiX2 : ∀ w ∈ u_ws RX2 TX2 8, w ∈ wsX2_take := fun w hw => List.mem_cons_of_mem _ (List.mem_append_right _ hw)
  have hC5 : ∀ (n : Nat) (R_length : Int32) (R_tape : Nat → Int32) (x1 : Int64) (x4 : Int32) (H : Heap) (locs : List Loc) (ls : Array Slot), fX2_take_c5 n R_length R_tape x1 x4 = some (rr, R_length_z, R_tape_z) → va_P (dC, dI) vwCl [(aR, .inr (2, [.ref aR_tape, .ref aR_rounds, .int R_length, .int R_roundsRead, .int R_token, .int R_start, .int R_behind, .int R_number])), (aR_tape, .inl (cI, 300, .inl R_tape))] H → va_D A [(aR, .inr (2, [.ref aR_tape, .ref aR_rounds, .int R_length, .int R_roundsRead, .int R_token, .int R_start, .int R_behind, .int R_number])), (aR_tape, .inl (cI, 300, .inl R_tape))] → va_S A s.heap H locs → lv_has ls 5 [(0, .ref aR), (1, .long x1), (4, .int x4)] → W p l e rmX2_take s m args below meth c H locs 0 0 Q (F0 m 5 ls []) := by
    intro n
    induction n with
    | zero => intro R_length R_tape x1 x4 H locs ls h; rw [fX2_take_c5] at h; cases h
    | succ n5 ih5 =>
      intro R_length R_tape x1 x4 H locs ls h hP hD hS hl
      rw [fX2_take_c5] at h
      refine lv_iload hx hb dX2_take_5 (lv_at hl 2 rfl) ?_
      refine lv_if_lt (tgt := 47) hx hb dX2_take_7 (by decide) (fun c601 => ?_) (fun c601 => ?_)
      · have h := ift c601 h
        refine lv_aload_n hx hb dX2_take_47 rfl (lv_at hl 0 rfl) ?_
        refine ka_get (v := .int R_length) (C := RX2) (T := TX2) (Nf := 8) (ref := "BeepNet$Reader") hx hb hts hiX2 hown hK hP 0 rfl rfl 2 (by decide) k_0 rfl rfl dX2_take_48 ?_
        obtain ⟨rfl, rfl, rfl⟩ := sj3 h
        exact hret _ _ _ _ _ rfl rfl hP hD hS dX2_take_51
      · have h := ifn c601 h
        refine lv_aload_n hx hb dX2_take_10 rfl (lv_at hl 0 rfl) ?_
        refine ka_get (v := .ref aR_tape) (C := RX2) (T := TX2) (Nf := 8) (ref := "BeepNet$Reader") hx hb hts hiX2 hown hK hP 0 rfl rfl 0 (by decide) k_1 rfl rfl dX2_take_11 ?_
        refine lv_aload_n hx hb dX2_take_14 rfl (lv_at hl 0 rfl) ?_
        refine ka_get (v := .int R_length) (C := RX2) (T := TX2) (Nf := 8) (ref := "BeepNet$Reader") hx hb hts hiX2 hown hK hP 0 rfl rfl 2 (by decide) k_0 rfl rfl dX2_take_15 ?_
        refine lv_lload_n hx hb dX2_take_18 rfl (lv_at hl 1 rfl) ?_
        refine lv_bipush (v := 8) hx hb dX2_take_19 (by decide) ?_
        refine lv_iload hx hb dX2_take_21 (lv_at hl 2 rfl) ?_
        refine lv_imul hx hb dX2_take_23 ?_
        refine lv_lushr hx hb dX2_take_24 rfl ?_
        refine lv_ldc2 hx hb hown k_2 dX2_take_25 ?_
        refine lv_land hx hb dX2_take_28 ?_
        refine lv_l2i hx hb dX2_take_29 rfl ?_
        obtain ⟨g602, eg602, hn603, h⟩ := sti_s h
        refine ka_ist (w1 := [(aR, .inr (2, [.ref aR_tape, .ref aR_rounds, .int R_length, .int R_roundsRead, .int R_token, .int R_start, .int R_behind, .int R_number])), (aR_tape, .inl (cI, 300, .inl g602))]) hx hb hK hP hD hS 1 0 eg602 rfl rfl hn603 dX2_take_30 rfl (fun H locs hP hD hS => ?_)
        refine lv_aload_n hx hb dX2_take_31 rfl (lv_at hl 0 rfl) ?_
        refine lv_dup hx hb dX2_take_32 rfl ?_
        refine ka_get (v := .int R_length) (C := RX2) (T := TX2) (Nf := 8) (ref := "BeepNet$Reader") hx hb hts hiX2 hown hK hP 0 rfl rfl 2 (by decide) k_0 rfl rfl dX2_take_33 ?_
        refine lv_iconst (v := 1) hx hb dX2_take_36 (by decide) ?_
        refine lv_iadd hx hb dX2_take_37 ?_
        refine ka_put (w1 := [(aR, .inr (2, [.ref aR_tape, .ref aR_rounds, .int (R_length + (1 : Int32)), .int R_roundsRead, .int R_token, .int R_start, .int R_behind, .int R_number])), (aR_tape, .inl (cI, 300, .inl g602))]) (C := RX2) (T := TX2) (Nf := 8) (ref := "BeepNet$Reader") hx hb hts hiX2 tyX2 tyX2_ok nmX2 hown hK hP hD hS 0 rfl rfl 2 (by decide) k_0 rfl rfl rfl (Nat.le_of_ble_eq_true rfl) dX2_take_38 rfl (fun H locs hP hD hS => ?_)
        refine lv_iinc (v := x4 + (-1)) (lv' := [(4, .int (x4 + (-1))), (0, .ref aR), (1, .long x1)]) hx hb dX2_take_41 hl (k := 2) rfl rfl (by decide) rfl (fun ls hl => ?_)
        refine lv_goto (tgt := 5) hx hb dX2_take_44 (by decide) ?_
        exact ih5 (R_length + (1 : Int32)) g602 x1 (x4 + (-1)) _ _ _ h hP hD hS (lv_sub hl [1, 2, 0] rfl)
  unfold fX2_take at h
  refine lv_iload_n hx hb dX2_take_0 rfl (lv_at hl 2 rfl) ?_
  refine lv_iconst (v := 1) hx hb dX2_take_1 (by decide) ?_
  refine lv_isub hx hb dX2_take_2 ?_
  refine lv_istore (lv' := [(4, .int (p1 - (1 : Int32))), (0, .ref aR), (1, .long p0), (3, .int p1)]) hx hb dX2_take_3 hl (by decide) rfl (fun ls hl => ?_)
  exact hC5 FU R_length R_tape p0 (p1 - (1 : Int32)) _ _ _ h hP hD hS (lv_sub hl [1, 2, 0] rfl)
set_option maxHeartbeats 4000000 in
set_option maxRecDepth 100000 in
theorem c_X2_giveRounds (l : Launch) (dC : Nat → ClassId) (dI : Nat → Nat → Nat) (cI cJ cZ cA : ClassId) (aR aR_tape aR_rounds aT_rounds : Nat) (R_length : Int32) (R_roundsRead : Int32) (R_token : Int32) (R_start : Int32) (R_behind : Int32) (R_number : Int32) (R_rounds : Nat → Int32) (T_rounds : Nat → Int32) (rr : Int32) (T_rounds_z : Nat → Int32) (h : fX2_giveRounds R_roundsRead R_rounds T_rounds = some (rr, T_rounds_z)) : Cti l yX2_giveRounds wsX2_giveRounds rmX2_giveRounds (dC, dI) (tyL cI cJ cZ cA) [(aR, .inr (2, [.ref aR_tape, .ref aR_rounds, .int R_length, .int R_roundsRead, .int R_token, .int R_start, .int R_behind, .int R_number])), (aR_rounds, .inl (cI, 20, .inl R_rounds)), (aT_rounds, .inl (cI, 20, .inl T_rounds))] [(aR, .inr (2, [.ref aR_tape, .ref aR_rounds, .int R_length, .int R_roundsRead, .int R_token, .int R_start, .int R_behind, .int R_number])), (aR_rounds, .inl (cI, 20, .inl R_rounds)), (aT_rounds, .inl (cI, 20, .inl T_rounds_z))] [.ref aR, .ref aT_rounds] rr := by
  refine ct_int (ty := .int) (cc := cX2_giveRounds) (maxL := 2) (by decide) rfl (Nat.le_of_ble_eq_true rfl) ?_
  intro p e s m args below meth c A Q ls hx hb hml hown hts hA hK hP hD hS hl hret
  have hl : lv_has ls 2 [(0, .ref aR), (1, .ref aT_rounds)] := hl
  have k_0 := hts (.fieldLink RX2 15 "BeepNet$Reader" "rounds" "[I") (by decide +kernel)
  have k_1 := hts (.fieldLink RX2 24 "BeepNet$Reader" "roundsRead" "I") (by decide +kernel)
  have k_2 := hts (.methodLink RX2 27 arraycopyName) (by decide +kernel)
  have k_3 := hts (.native arraycopyName) (by decide +kernel)
  have k_4 := hts (.static arraycopyName) (by decide +kernel)
  have k_5 := hts (.initialized "java/lang/System") (by decide +kernel)
  have hiX2 : ∀ w ∈ u_ws RX2 TX2 8, w ∈ wsX2_giveRounds := fun w hw => List.mem_cons_of_mem _ (List.mem_append_right _ hw)
  unfold fX2_giveRounds at h
  refine lv_aload_n hx hb dX2_giveRounds_0 rfl (lv_at hl 0 rfl) ?_
  refine ka_get (v := .ref aR_rounds) (C := RX2) (T := TX2) (Nf := 8) (ref := "BeepNet$Reader") hx hb hts hiX2 hown hK hP 0 rfl rfl 1 (by decide) k_0 rfl rfl dX2_giveRounds_1 ?_
  refine lv_iconst (v := 0) hx hb dX2_giveRounds_4 (by decide) ?_
  refine lv_aload_n hx hb dX2_giveRounds_5 rfl (lv_at hl 1 rfl) ?_
  refine lv_iconst (v := 0) hx hb dX2_giveRounds_6 (by decide) ?_
  refine lv_aload_n hx hb dX2_giveRounds_7 rfl (lv_at hl 0 rfl) ?_
  refine ka_get (v := .int R_roundsRead) (C := RX2) (T := TX2) (Nf := 8) (ref := "BeepNet$Reader") hx hb hts hiX2 hown hK hP 0 rfl rfl 3 (by decide) k_1 rfl rfl dX2_giveRounds_8 ?_
  obtain ⟨g1, eg1, hn2, h⟩ := cpx_s h
  refine va_copyi hx hb (by rw [hml]; exact hl.1.symm) hown k_2 k_3 k_4 k_5 hK hP hD hS 1 2 0 0 rfl rfl rfl rfl rfl hn2.1 hn2.2.1 hn2.2.2.1 hn2.2.2.2.1 hn2.2.2.2.2 (fun _ _ => rfl) (Nat.le_of_ble_eq_true rfl) (Nat.le_of_ble_eq_true rfl) dX2_giveRounds_11 (fun H locs hP hD hS => ?_)
  rw [← eg1] at hP hD
  have hP : va_P (dC, dI) vwCl [(aR, .inr (2, [.ref aR_tape, .ref aR_rounds, .int R_length, .int R_roundsRead, .int R_token, .int R_start, .int R_behind, .int R_number])), (aR_rounds, .inl (cI, 20, .inl R_rounds)), (aT_rounds, .inl (cI, 20, .inl g1))] H := hP
  have hD : va_D A [(aR, .inr (2, [.ref aR_tape, .ref aR_rounds, .int R_length, .int R_roundsRead, .int R_token, .int R_start, .int R_behind, .int R_number])), (aR_rounds, .inl (cI, 20, .inl R_rounds)), (aT_rounds, .inl (cI, 20, .inl g1))] := hD
  refine lv_aload_n hx hb dX2_giveRounds_14 rfl (lv_at hl 0 rfl) ?_
  refine ka_get (v := .int R_roundsRead) (C := RX2) (T := TX2) (Nf := 8) (ref := "BeepNet$Reader") hx hb hts hiX2 hown hK hP 0 rfl rfl 3 (by decide) k_1 rfl rfl dX2_giveRounds_15 ?_
  obtain ⟨rfl, rfl⟩ := sj2 h
  exact hret _ _ _ _ _ rfl rfl hP hD hS dX2_giveRounds_18
set_option maxHeartbeats 4000000 in
set_option maxRecDepth 100000 in
theorem c_X2_tokenPlace (l : Launch) (dC : Nat → ClassId) (dI : Nat → Nat → Nat) (cI cJ cZ cA : ClassId) (aR aR_tape aR_rounds : Nat) (R_length : Int32) (R_roundsRead : Int32) (R_token : Int32) (R_start : Int32) (R_behind : Int32) (R_number : Int32) (rr : Int32) (h : fX2_tokenPlace R_start = some rr) : Cti l yX2_tokenPlace wsX2_tokenPlace rmX2_tokenPlace (dC, dI) (tyL cI cJ cZ cA) [(aR, .inr (2, [.ref aR_tape, .ref aR_rounds, .int R_length, .int R_roundsRead, .int R_token, .int R_start, .int R_behind, .int R_number]))] [(aR, .inr (2, [.ref aR_tape, .ref aR_rounds, .int R_length, .int R_roundsRead, .int R_token, .int R_start, .int R_behind, .int R_number]))] [.ref aR] rr := by
  refine ct_int (ty := .int) (cc := cX2_tokenPlace) (maxL := 1) (by decide) rfl (Nat.le_of_ble_eq_true rfl) ?_
  intro p e s m args below meth c A Q ls hx hb hml hown hts hA hK hP hD hS hl hret
  have hl : lv_has ls 1 [(0, .ref aR)] := hl
  have k_0 := hts (.fieldLink RX2 33 "BeepNet$Reader" "start" "I") (by decide +kernel)
  have hiX2 : ∀ w ∈ u_ws RX2 TX2 8, w ∈ wsX2_tokenPlace := fun w hw => List.mem_cons_of_mem _ (List.mem_append_right _ hw)
  unfold fX2_tokenPlace at h
  refine lv_aload_n hx hb dX2_tokenPlace_0 rfl (lv_at hl 0 rfl) ?_
  refine ka_get (v := .int R_start) (C := RX2) (T := TX2) (Nf := 8) (ref := "BeepNet$Reader") hx hb hts hiX2 hown hK hP 0 rfl rfl 5 (by decide) k_0 rfl rfl dX2_tokenPlace_1 ?_
  obtain rfl := sj1 h
  exact hret _ _ _ _ _ rfl rfl hP hD hS dX2_tokenPlace_4
set_option maxHeartbeats 4000000 in
set_option maxRecDepth 100000 in
theorem c_X2_isLetter (l : Launch) (dC : Nat → ClassId) (dI : Nat → Nat → Nat) (cI cJ cZ cA : ClassId) (p0 : Int32) (rr : Int32) (h : fX2_isLetter p0 = some rr) : Cti l yX2_isLetter wsX2_isLetter rmX2_isLetter (dC, dI) (tyL cI cJ cZ cA) [] [] [.int p0] rr := by
  refine ct_int (ty := .boolean) (cc := cX2_isLetter) (maxL := 1) (by decide) rfl (Nat.le_of_ble_eq_true rfl) ?_
  intro p e s m args below meth c A Q ls hx hb hml hown hts hA hK hP hD hS hl hret
  have hl : lv_has ls 1 [(0, .int p0)] := hl
  unfold fX2_isLetter at h
  refine lv_iload_n hx hb dX2_isLetter_0 rfl (lv_at hl 0 rfl) ?_
  refine lv_bipush (v := 97) hx hb dX2_isLetter_1 (by decide) ?_
  refine lv_icmp_lt (tgt := 16) hx hb dX2_isLetter_3 (by decide) (fun c1 => ?_) (fun c1 => ?_)
  · have h := ift c1 h
    refine lv_iconst (v := 0) hx hb dX2_isLetter_16 (by decide) ?_
    obtain rfl := sj1 h
    exact hret _ _ _ _ _ rfl rfl hP hD hS dX2_isLetter_17
  · have h := ifn c1 h
    refine lv_iload_n hx hb dX2_isLetter_6 rfl (lv_at hl 0 rfl) ?_
    refine lv_bipush (v := 122) hx hb dX2_isLetter_7 (by decide) ?_
    refine lv_icmp_gt (tgt := 16) hx hb dX2_isLetter_9 (by decide) (fun c2 => ?_) (fun c2 => ?_)
    · have h := ift c2 h
      refine lv_iconst (v := 0) hx hb dX2_isLetter_16 (by decide) ?_
      obtain rfl := sj1 h
      exact hret _ _ _ _ _ rfl rfl hP hD hS dX2_isLetter_17
    · have h := ifn c2 h
      refine lv_iconst (v := 1) hx hb dX2_isLetter_12 (by decide) ?_
      refine lv_goto (tgt := 17) hx hb dX2_isLetter_13 (by decide) ?_
      obtain rfl := sj1 h
      exact hret _ _ _ _ _ rfl rfl hP hD hS dX2_isLetter_17
set_option maxHeartbeats 4000000 in
set_option maxRecDepth 100000 in
theorem c_X2_advanceName (l : Launch) (dC : Nat → ClassId) (dI : Nat → Nat → Nat) (cI cJ cZ cA : ClassId) (sk sv : Nat → Nat) (aR aR_tape aR_rounds : Nat) (R_length : Int32) (R_roundsRead : Int32) (R_token : Int32) (R_start : Int32) (R_behind : Int32) (R_number : Int32) (R_tape : Nat → Int32) (R_token_z : Int32) (R_behind_z : Int32) (h : fX2_advanceName R_length R_token R_start R_behind R_tape = some (R_token_z, R_behind_z)) : CtvX l yX2_advanceName wsX2_advanceName rmX2_advanceName (dC, dI) (tyL cI cJ cZ cA) sk sv [(aR, .inr (2, [.ref aR_tape, .ref aR_rounds, .int R_length, .int R_roundsRead, .int R_token, .int R_start, .int R_behind, .int R_number])), (aR_tape, .inl (cI, 300, .inl R_tape))] [(aR, .inr (2, [.ref aR_tape, .ref aR_rounds, .int R_length, .int R_roundsRead, .int R_token_z, .int R_start, .int R_behind_z, .int R_number])), (aR_tape, .inl (cI, 300, .inl R_tape))] [.ref aR] := by
  refine ct_voidX (cc := cX2_advanceName) (maxL := 1) (by decide) rfl (Nat.le_of_ble_eq_true rfl) ?_
  intro p e s m args below meth c A Q ls hx hb hml hown hts hA hK hP hD hS hl hret hX
  have hl : lv_has ls 1 [(0, .ref aR)] := hl
  have k_0 := hts (.fieldLink RX2 42 "BeepNet$Reader" "token" "I") (by decide +kernel)
  have k_1 := hts (.fieldLink RX2 36 "BeepNet$Reader" "behind" "I") (by decide +kernel)
  have k_2 := hts (.fieldLink RX2 18 "BeepNet$Reader" "length" "I") (by decide +kernel)
  have k_3 := hts (.fieldLink RX2 9 "BeepNet$Reader" "tape" "[I") (by decide +kernel)
  have hiX2 : ∀ w ∈ u_ws RX2 TX2 8, w ∈ wsX2_advanceName := fun w hw => List.mem_cons_of_mem _ (List.mem_append_right _ hw)
  have hC39 : ∀ (R_token : Int32) (R_behind : Int32) (H : Heap) (locs : List Loc) (ls : Array Slot), fX2_advanceName_c39 R_length R_start R_tape R_token R_behind = some (R_token_z, R_behind_z) → va_P (dC, dI) vwCl [(aR, .inr (2, [.ref aR_tape, .ref aR_rounds, .int R_length, .int R_roundsRead, .int R_token, .int R_start, .int R_behind, .int R_number])), (aR_tape, .inl (cI, 300, .inl R_tape))] H → va_D A [(aR, .inr (2, [.ref aR_tape, .ref aR_rounds, .int R_length, .int R_roundsRead, .int R_token, .int R_start, .int R_behind, .int R_number])), (aR_tape, .inl (cI, 300, .inl R_tape))] → va_S A s.heap H locs → lv_has ls 1 [(0, .ref aR)] → W p l e rmX2_advanceName s m args below meth c H locs 0 0 Q (F0 m 39 ls []) := by
    intro R_token R_behind H locs ls h hP hD hS hl
    unfold fX2_advanceName_c39 at h
    refine lv_aload_n hx hb dX2_advanceName_39 rfl (lv_at hl 0 rfl) ?_
    refine lv_iconst (v := 1) hx hb dX2_advanceName_40 (by decide) ?_
    refine ka_put (w1 := [(aR, .inr (2, [.ref aR_tape, .ref aR_rounds, .int R_length, .int R_roundsRead, .int 1, .int R_start, .int R_behind, .int R_number])), (aR_tape, .inl (cI, 300, .inl R_tape))]) (C := RX2) (T := TX2) (Nf := 8) (ref := "BeepNet$Reader") hx hb hts hiX2 tyX2 tyX2_ok nmX2 hown hK hP hD hS 0 rfl rfl 4 (by decide) k_0 rfl rfl rfl (Nat.le_of_ble_eq_true rfl) dX2_advanceName_41 rfl (fun H locs hP hD hS => ?_)
    refine lv_aload_n hx hb dX2_advanceName_44 rfl (lv_at hl 0 rfl) ?_
    refine va_ldcS hx hb hown hX.2.1 dX2_advanceName_45 ?_
    obtain ⟨r4001, e4002, h⟩ := bd1_s h
    refine kc_viX hX (rest := []) (wr := []) (wF := [(aR, .inr (2, [.ref aR_tape, .ref aR_rounds, .int R_length, .int R_roundsRead, .int 1, .int R_start, .int R_behind, .int R_number])), (aR_tape, .inl (cI, 300, .inl R_tape))]) ⟨hx, hb, hml, hown, hts⟩ (c_X2_isWord l dC dI cI cJ cZ cA sk sv aR aR_tape aR_rounds R_length R_roundsRead 1 R_start R_behind R_number R_tape 0 r4001 e4002) (cwV 1 hts gX2_advanceName_X2_isWord rfl rfl rfl (by decide +kernel) ⟨Nat.le_of_ble_eq_true rfl, Nat.le_of_ble_eq_true rfl⟩) hK hP hD hS hA [0, 1] [] [0, 1] 0 rfl rfl rfl rfl (by decide) rfl rfl rfl rfl rfl rfl hl.1 rfl (Nat.le_of_ble_eq_true rfl) dX2_advanceName_47 ⟨Nat.zero_le _, Nat.zero_le _⟩ (fun H locs hP hD hS => ?_)
    refine lv_if_eq (tgt := 61) hx hb dX2_advanceName_50 (by decide) (fun c4003 => ?_) (fun c4003 => ?_)
    · have h := ift c4003 h
      refine lv_aload_n hx hb dX2_advanceName_61 rfl (lv_at hl 0 rfl) ?_
      refine va_ldcS hx hb hown hX.2.2.1 dX2_advanceName_62 ?_
      obtain ⟨r4004, e4005, h⟩ := bd1_s h
      refine kc_viX hX (rest := []) (wr := []) (wF := [(aR, .inr (2, [.ref aR_tape, .ref aR_rounds, .int R_length, .int R_roundsRead, .int 1, .int R_start, .int R_behind, .int R_number])), (aR_tape, .inl (cI, 300, .inl R_tape))]) ⟨hx, hb, hml, hown, hts⟩ (c_X2_isWord l dC dI cI cJ cZ cA sk sv aR aR_tape aR_rounds R_length R_roundsRead 1 R_start R_behind R_number R_tape 1 r4004 e4005) (cwV 1 hts gX2_advanceName_X2_isWord rfl rfl rfl (by decide +kernel) ⟨Nat.le_of_ble_eq_true rfl, Nat.le_of_ble_eq_true rfl⟩) hK hP hD hS hA [0, 1] [] [0, 1] 0 rfl rfl rfl rfl (by decide) rfl rfl rfl rfl rfl rfl hl.1 rfl (Nat.le_of_ble_eq_true rfl) dX2_advanceName_64 ⟨Nat.zero_le _, Nat.zero_le _⟩ (fun H locs hP hD hS => ?_)
      refine lv_if_eq (tgt := 78) hx hb dX2_advanceName_67 (by decide) (fun c4006 => ?_) (fun c4006 => ?_)
      · have h := ift c4006 h
        refine lv_aload_n hx hb dX2_advanceName_78 rfl (lv_at hl 0 rfl) ?_
        refine va_ldcS hx hb hown hX.2.2.2.1 dX2_advanceName_79 ?_
        obtain ⟨r4007, e4008, h⟩ := bd1_s h
        refine kc_viX hX (rest := []) (wr := []) (wF := [(aR, .inr (2, [.ref aR_tape, .ref aR_rounds, .int R_length, .int R_roundsRead, .int 1, .int R_start, .int R_behind, .int R_number])), (aR_tape, .inl (cI, 300, .inl R_tape))]) ⟨hx, hb, hml, hown, hts⟩ (c_X2_isWord l dC dI cI cJ cZ cA sk sv aR aR_tape aR_rounds R_length R_roundsRead 1 R_start R_behind R_number R_tape 2 r4007 e4008) (cwV 1 hts gX2_advanceName_X2_isWord rfl rfl rfl (by decide +kernel) ⟨Nat.le_of_ble_eq_true rfl, Nat.le_of_ble_eq_true rfl⟩) hK hP hD hS hA [0, 1] [] [0, 1] 0 rfl rfl rfl rfl (by decide) rfl rfl rfl rfl rfl rfl hl.1 rfl (Nat.le_of_ble_eq_true rfl) dX2_advanceName_81 ⟨Nat.zero_le _, Nat.zero_le _⟩ (fun H locs hP hD hS => ?_)
        refine lv_if_eq (tgt := 92) hx hb dX2_advanceName_84 (by decide) (fun c4009 => ?_) (fun c4009 => ?_)
        · have h := ift c4009 h
          obtain ⟨rfl, rfl⟩ := sj2 h
          exact hret _ _ _ _ hP hD hS dX2_advanceName_92
        · have h := ifn c4009 h
          refine lv_aload_n hx hb dX2_advanceName_87 rfl (lv_at hl 0 rfl) ?_
          refine lv_iconst (v := 4) hx hb dX2_advanceName_88 (by decide) ?_
          refine ka_put (w1 := [(aR, .inr (2, [.ref aR_tape, .ref aR_rounds, .int R_length, .int R_roundsRead, .int 4, .int R_start, .int R_behind, .int R_number])), (aR_tape, .inl (cI, 300, .inl R_tape))]) (C := RX2) (T := TX2) (Nf := 8) (ref := "BeepNet$Reader") hx hb hts hiX2 tyX2 tyX2_ok nmX2 hown hK hP hD hS 0 rfl rfl 4 (by decide) k_0 rfl rfl rfl (Nat.le_of_ble_eq_true rfl) dX2_advanceName_89 rfl (fun H locs hP hD hS => ?_)
          obtain ⟨rfl, rfl⟩ := sj2 h
          exact hret _ _ _ _ hP hD hS dX2_advanceName_92
      · have h := ifn c4006 h
        refine lv_aload_n hx hb dX2_advanceName_70 rfl (lv_at hl 0 rfl) ?_
        refine lv_iconst (v := 3) hx hb dX2_advanceName_71 (by decide) ?_
        refine ka_put (w1 := [(aR, .inr (2, [.ref aR_tape, .ref aR_rounds, .int R_length, .int R_roundsRead, .int 3, .int R_start, .int R_behind, .int R_number])), (aR_tape, .inl (cI, 300, .inl R_tape))]) (C := RX2) (T := TX2) (Nf := 8) (ref := "BeepNet$Reader") hx hb hts hiX2 tyX2 tyX2_ok nmX2 hown hK hP hD hS 0 rfl rfl 4 (by decide) k_0 rfl rfl rfl (Nat.le_of_ble_eq_true rfl) dX2_advanceName_72 rfl (fun H locs hP hD hS => ?_)
        refine lv_goto (tgt := 92) hx hb dX2_advanceName_75 (by decide) ?_
        obtain ⟨rfl, rfl⟩ := sj2 h
        exact hret _ _ _ _ hP hD hS dX2_advanceName_92
    · have h := ifn c4003 h
      refine lv_aload_n hx hb dX2_advanceName_53 rfl (lv_at hl 0 rfl) ?_
      refine lv_iconst (v := 2) hx hb dX2_advanceName_54 (by decide) ?_
      refine ka_put (w1 := [(aR, .inr (2, [.ref aR_tape, .ref aR_rounds, .int R_length, .int R_roundsRead, .int 2, .int R_start, .int R_behind, .int R_number])), (aR_tape, .inl (cI, 300, .inl R_tape))]) (C := RX2) (T := TX2) (Nf := 8) (ref := "BeepNet$Reader") hx hb hts hiX2 tyX2 tyX2_ok nmX2 hown hK hP hD hS 0 rfl rfl 4 (by decide) k_0 rfl rfl rfl (Nat.le_of_ble_eq_true rfl) dX2_advanceName_55 rfl (fun H locs hP hD hS => ?_)
      refine lv_goto (tgt := 92) hx hb dX2_advanceName_58 (by decide) ?_
      obtain ⟨rfl, rfl⟩ := sj2 h
      exact hret _ _ _ _ hP hD hS dX2_advanceName_92
  have hC0 : ∀ (n : Nat) (R_token : Int32) (R_behind : Int32) (H : Heap) (locs : List Loc) (ls : Array Slot), fX2_advanceName_c0 R_length R_start R_tape n R_token R_behind = some (R_token_z, R_behind_z) → va_P (dC, dI) vwCl [(aR, .inr (2, [.ref aR_tape, .ref aR_rounds, .int R_length, .int R_roundsRead, .int R_token, .int R_start, .int R_behind, .int R_number])), (aR_tape, .inl (cI, 300, .inl R_tape))] H → va_D A [(aR, .inr (2, [.ref aR_tape, .ref aR_rounds, .int R_length, .int R_roundsRead, .int R_token, .int R_start, .int R_behind, .int R_number])), (aR_tape, .inl (cI, 300, .inl R_tape))] → va_S A s.heap H locs → lv_has ls 1 [(0, .ref aR)] → W p l e rmX2_advanceName s m args below meth c H locs 0 0 Q (F0 m 0 ls []) := by
    intro n
    induction n with
    | zero => intro R_token R_behind H locs ls h; rw [fX2_advanceName_c0] at h; cases h
    | succ n0 ih0 =>
      intro R_token R_behind H locs ls h hP hD hS hl
      rw [fX2_advanceName_c0] at h
      refine lv_aload_n hx hb dX2_advanceName_0 rfl (lv_at hl 0 rfl) ?_
      refine ka_get (v := .int R_behind) (C := RX2) (T := TX2) (Nf := 8) (ref := "BeepNet$Reader") hx hb hts hiX2 hown hK hP 0 rfl rfl 6 (by decide) k_1 rfl rfl dX2_advanceName_1 ?_
      refine lv_aload_n hx hb dX2_advanceName_4 rfl (lv_at hl 0 rfl) ?_
      refine ka_get (v := .int R_length) (C := RX2) (T := TX2) (Nf := 8) (ref := "BeepNet$Reader") hx hb hts hiX2 hown hK hP 0 rfl rfl 2 (by decide) k_2 rfl rfl dX2_advanceName_5 ?_
      refine lv_icmp_ge (tgt := 39) hx hb dX2_advanceName_8 (by decide) (fun c101 => ?_) (fun c101 => ?_)
      · have h := ift c101 h
        exact hC39 R_token R_behind _ _ _ h hP hD hS (lv_sub hl [0] rfl)
      · have h := ifn c101 h
        refine lv_aload_n hx hb dX2_advanceName_11 rfl (lv_at hl 0 rfl) ?_
        refine ka_get (v := .ref aR_tape) (C := RX2) (T := TX2) (Nf := 8) (ref := "BeepNet$Reader") hx hb hts hiX2 hown hK hP 0 rfl rfl 0 (by decide) k_3 rfl rfl dX2_advanceName_12 ?_
        refine lv_aload_n hx hb dX2_advanceName_15 rfl (lv_at hl 0 rfl) ?_
        refine ka_get (v := .int R_behind) (C := RX2) (T := TX2) (Nf := 8) (ref := "BeepNet$Reader") hx hb hts hiX2 hown hK hP 0 rfl rfl 6 (by decide) k_1 rfl rfl dX2_advanceName_16 ?_
        obtain ⟨v102, ev102, hn103, h⟩ := ldx_s h
        refine ka_ild hx hb hK hP 1 0 ev102 rfl rfl hn103 dX2_advanceName_19 ?_
        obtain ⟨r104, e105, h⟩ := bd1_s h
        refine kc_si (rest := []) (wr := [(aR, .inr (2, [.ref aR_tape, .ref aR_rounds, .int R_length, .int R_roundsRead, .int R_token, .int R_start, .int R_behind, .int R_number])), (aR_tape, .inl (cI, 300, .inl R_tape))]) (wF := [(aR, .inr (2, [.ref aR_tape, .ref aR_rounds, .int R_length, .int R_roundsRead, .int R_token, .int R_start, .int R_behind, .int R_number])), (aR_tape, .inl (cI, 300, .inl R_tape))]) ⟨hx, hb, hml, hown, hts⟩ (c_X2_isLetter l dC dI cI cJ cZ cA v102 r104 e105) (va_cwS 1 hts gX2_advanceName_X2_isLetter rfl rfl rfl (by decide +kernel) ⟨Nat.le_of_ble_eq_true rfl, Nat.le_of_ble_eq_true rfl⟩) hK hP hD hS hA [] [0, 1] [0, 1] rfl rfl rfl rfl (by decide) rfl rfl rfl hl.1 rfl (Nat.le_of_ble_eq_true rfl) dX2_advanceName_20 ⟨Nat.zero_le _, Nat.zero_le _⟩ (fun H locs hP hD hS => ?_)
        refine lv_if_eq (tgt := 39) hx hb dX2_advanceName_23 (by decide) (fun c106 => ?_) (fun c106 => ?_)
        · have h := ift c106 h
          exact hC39 R_token R_behind _ _ _ h hP hD hS (lv_sub hl [0] rfl)
        · have h := ifn c106 h
          refine lv_aload_n hx hb dX2_advanceName_26 rfl (lv_at hl 0 rfl) ?_
          refine lv_dup hx hb dX2_advanceName_27 rfl ?_
          refine ka_get (v := .int R_behind) (C := RX2) (T := TX2) (Nf := 8) (ref := "BeepNet$Reader") hx hb hts hiX2 hown hK hP 0 rfl rfl 6 (by decide) k_1 rfl rfl dX2_advanceName_28 ?_
          refine lv_iconst (v := 1) hx hb dX2_advanceName_31 (by decide) ?_
          refine lv_iadd hx hb dX2_advanceName_32 ?_
          refine ka_put (w1 := [(aR, .inr (2, [.ref aR_tape, .ref aR_rounds, .int R_length, .int R_roundsRead, .int R_token, .int R_start, .int (R_behind + (1 : Int32)), .int R_number])), (aR_tape, .inl (cI, 300, .inl R_tape))]) (C := RX2) (T := TX2) (Nf := 8) (ref := "BeepNet$Reader") hx hb hts hiX2 tyX2 tyX2_ok nmX2 hown hK hP hD hS 0 rfl rfl 6 (by decide) k_1 rfl rfl rfl (Nat.le_of_ble_eq_true rfl) dX2_advanceName_33 rfl (fun H locs hP hD hS => ?_)
          refine lv_goto (tgt := 0) hx hb dX2_advanceName_36 (by decide) ?_
          exact ih0 R_token (R_behind + (1 : Int32)) _ _ _ h hP hD hS (lv_sub hl [0] rfl)
  unfold fX2_advanceName at h
  exact hC0 FU R_token R_behind _ _ _ h hP hD hS (lv_sub hl [0] rfl)
set_option maxHeartbeats 4000000 in
set_option maxRecDepth 100000 in
theorem c_X2_isFigure (l : Launch) (dC : Nat → ClassId) (dI : Nat → Nat → Nat) (cI cJ cZ cA : ClassId) (p0 : Int32) (rr : Int32) (h : fX2_isFigure p0 = some rr) : Cti l yX2_isFigure wsX2_isFigure rmX2_isFigure (dC, dI) (tyL cI cJ cZ cA) [] [] [.int p0] rr := by
  refine ct_int (ty := .boolean) (cc := cX2_isFigure) (maxL := 1) (by decide) rfl (Nat.le_of_ble_eq_true rfl) ?_
  intro p e s m args below meth c A Q ls hx hb hml hown hts hA hK hP hD hS hl hret
  have hl : lv_has ls 1 [(0, .int p0)] := hl
  unfold fX2_isFigure at h
  refine lv_iload_n hx hb dX2_isFigure_0 rfl (lv_at hl 0 rfl) ?_
  refine lv_bipush (v := 48) hx hb dX2_isFigure_1 (by decide) ?_
  refine lv_icmp_lt (tgt := 16) hx hb dX2_isFigure_3 (by decide) (fun c1 => ?_) (fun c1 => ?_)
  · have h := ift c1 h
    refine lv_iconst (v := 0) hx hb dX2_isFigure_16 (by decide) ?_
    obtain rfl := sj1 h
    exact hret _ _ _ _ _ rfl rfl hP hD hS dX2_isFigure_17
  · have h := ifn c1 h
    refine lv_iload_n hx hb dX2_isFigure_6 rfl (lv_at hl 0 rfl) ?_
    refine lv_bipush (v := 57) hx hb dX2_isFigure_7 (by decide) ?_
    refine lv_icmp_gt (tgt := 16) hx hb dX2_isFigure_9 (by decide) (fun c2 => ?_) (fun c2 => ?_)
    · have h := ift c2 h
      refine lv_iconst (v := 0) hx hb dX2_isFigure_16 (by decide) ?_
      obtain rfl := sj1 h
      exact hret _ _ _ _ _ rfl rfl hP hD hS dX2_isFigure_17
    · have h := ifn c2 h
      refine lv_iconst (v := 1) hx hb dX2_isFigure_12 (by decide) ?_
      refine lv_goto (tgt := 17) hx hb dX2_isFigure_13 (by decide) ?_
      obtain rfl := sj1 h
      exact hret _ _ _ _ _ rfl rfl hP hD hS dX2_isFigure_17
set_option maxHeartbeats 4000000 in
set_option maxRecDepth 100000 in
theorem c_X2_advanceNumber (l : Launch) (dC : Nat → ClassId) (dI : Nat → Nat → Nat) (cI cJ cZ cA : ClassId) (aR aR_tape aR_rounds : Nat) (R_length : Int32) (R_roundsRead : Int32) (R_token : Int32) (R_start : Int32) (R_behind : Int32) (R_number : Int32) (R_tape : Nat → Int32) (R_token_z : Int32) (R_behind_z : Int32) (R_number_z : Int32) (h : fX2_advanceNumber R_length R_token R_start R_behind R_number R_tape = some (R_token_z, R_behind_z, R_number_z)) : Ctv l yX2_advanceNumber wsX2_advanceNumber rmX2_advanceNumber (dC, dI) (tyL cI cJ cZ cA) [(aR, .inr (2, [.ref aR_tape, .ref aR_rounds, .int R_length, .int R_roundsRead, .int R_token, .int R_start, .int R_behind, .int R_number])), (aR_tape, .inl (cI, 300, .inl R_tape))] [(aR, .inr (2, [.ref aR_tape, .ref aR_rounds, .int R_length, .int R_roundsRead, .int R_token_z, .int R_start, .int R_behind_z, .int R_number_z])), (aR_tape, .inl (cI, 300, .inl R_tape))] [.ref aR] := by
  refine ct_void (cc := cX2_advanceNumber) (maxL := 1) (by decide) rfl (Nat.le_of_ble_eq_true rfl) ?_
  intro p e s m args below meth c A Q ls hx hb hml hown hts hA hK hP hD hS hl hret
  have hl : lv_has ls 1 [(0, .ref aR)] := hl
  have k_0 := hts (.fieldLink RX2 59 "BeepNet$Reader" "number" "I") (by decide +kernel)
  have k_1 := hts (.fieldLink RX2 36 "BeepNet$Reader" "behind" "I") (by decide +kernel)
  have k_2 := hts (.fieldLink RX2 33 "BeepNet$Reader" "start" "I") (by decide +kernel)
  have k_3 := hts (.fieldLink RX2 42 "BeepNet$Reader" "token" "I") (by decide +kernel)
  have k_4 := hts (.fieldLink RX2 18 "BeepNet$Reader" "length" "I") (by decide +kernel)
  have k_5 := hts (.fieldLink RX2 9 "BeepNet$Reader" "tape" "[I") (by decide +kernel)
  have hiX2 : ∀ w ∈ u_ws RX2 TX2 8, w ∈ wsX2_advanceNumber := fun w hw => List.mem_cons_of_mem _ (List.mem_append_right _ hw)
  have hC88 : ∀ (R_token : Int32) (R_behind : Int32) (R_number : Int32) (H : Heap) (locs : List Loc) (ls : Array Slot), fX2_advanceNumber_c88 R_length R_start R_tape R_token R_behind R_number = some (R_token_z, R_behind_z, R_number_z) → va_P (dC, dI) vwCl [(aR, .inr (2, [.ref aR_tape, .ref aR_rounds, .int R_length, .int R_roundsRead, .int R_token, .int R_start, .int R_behind, .int R_number])), (aR_tape, .inl (cI, 300, .inl R_tape))] H → va_D A [(aR, .inr (2, [.ref aR_tape, .ref aR_rounds, .int R_length, .int R_roundsRead, .int R_token, .int R_start, .int R_behind, .int R_number])), (aR_tape, .inl (cI, 300, .inl R_tape))] → va_S A s.heap H locs → lv_has ls 1 [(0, .ref aR)] → W p l e rmX2_advanceNumber s m args below meth c H locs 0 0 Q (F0 m 88 ls []) := by
    intro R_token R_behind R_number H locs ls h hP hD hS hl
    unfold fX2_advanceNumber_c88 at h
    refine lv_aload_n hx hb dX2_advanceNumber_88 rfl (lv_at hl 0 rfl) ?_
    refine lv_aload_n hx hb dX2_advanceNumber_89 rfl (lv_at hl 0 rfl) ?_
    refine ka_get (v := .int R_behind) (C := RX2) (T := TX2) (Nf := 8) (ref := "BeepNet$Reader") hx hb hts hiX2 hown hK hP 0 rfl rfl 6 (by decide) k_1 rfl rfl dX2_advanceNumber_90 ?_
    refine lv_aload_n hx hb dX2_advanceNumber_93 rfl (lv_at hl 0 rfl) ?_
    refine ka_get (v := .int R_start) (C := RX2) (T := TX2) (Nf := 8) (ref := "BeepNet$Reader") hx hb hts hiX2 hown hK hP 0 rfl rfl 5 (by decide) k_2 rfl rfl dX2_advanceNumber_94 ?_
    refine lv_isub hx hb dX2_advanceNumber_97 ?_
    refine lv_iconst (v := 2) hx hb dX2_advanceNumber_98 (by decide) ?_
    refine lv_icmp_gt (tgt := 106) hx hb dX2_advanceNumber_99 (by decide) (fun c8901 => ?_) (fun c8901 => ?_)
    · have h := ift c8901 h
      refine lv_iconst (v := 1) hx hb dX2_advanceNumber_106 (by decide) ?_
      refine ka_put (w1 := [(aR, .inr (2, [.ref aR_tape, .ref aR_rounds, .int R_length, .int R_roundsRead, .int 1, .int R_start, .int R_behind, .int R_number])), (aR_tape, .inl (cI, 300, .inl R_tape))]) (C := RX2) (T := TX2) (Nf := 8) (ref := "BeepNet$Reader") hx hb hts hiX2 tyX2 tyX2_ok nmX2 hown hK hP hD hS 0 rfl rfl 4 (by decide) k_3 rfl rfl rfl (Nat.le_of_ble_eq_true rfl) dX2_advanceNumber_107 rfl (fun H locs hP hD hS => ?_)
      obtain ⟨rfl, rfl, rfl⟩ := sj3 h
      exact hret _ _ _ _ hP hD hS dX2_advanceNumber_110
    · have h := ifn c8901 h
      refine lv_iconst (v := 5) hx hb dX2_advanceNumber_102 (by decide) ?_
      refine lv_goto (tgt := 107) hx hb dX2_advanceNumber_103 (by decide) ?_
      refine ka_put (w1 := [(aR, .inr (2, [.ref aR_tape, .ref aR_rounds, .int R_length, .int R_roundsRead, .int 5, .int R_start, .int R_behind, .int R_number])), (aR_tape, .inl (cI, 300, .inl R_tape))]) (C := RX2) (T := TX2) (Nf := 8) (ref := "BeepNet$Reader") hx hb hts hiX2 tyX2 tyX2_ok nmX2 hown hK hP hD hS 0 rfl rfl 4 (by decide) k_3 rfl rfl rfl (Nat.le_of_ble_eq_true rfl) dX2_advanceNumber_107 rfl (fun H locs hP hD hS => ?_)
      obtain ⟨rfl, rfl, rfl⟩ := sj3 h
      exact hret _ _ _ _ hP hD hS dX2_advanceNumber_110
  have hC5 : ∀ (n : Nat) (R_token : Int32) (R_behind : Int32) (R_number : Int32) (H : Heap) (locs : List Loc) (ls : Array Slot), fX2_advanceNumber_c5 R_length R_start R_tape n R_token R_behind R_number = some (R_token_z, R_behind_z, R_number_z) → va_P (dC, dI) vwCl [(aR, .inr (2, [.ref aR_tape, .ref aR_rounds, .int R_length, .int R_roundsRead, .int R_token, .int R_start, .int R_behind, .int R_number])), (aR_tape, .inl (cI, 300, .inl R_tape))] H → va_D A [(aR, .inr (2, [.ref aR_tape, .ref aR_rounds, .int R_length, .int R_roundsRead, .int R_token, .int R_start, .int R_behind, .int R_number])), (aR_tape, .inl (cI, 300, .inl R_tape))] → va_S A s.heap H locs → lv_has ls 1 [(0, .ref aR)] → W p l e rmX2_advanceNumber s m args below meth c H locs 0 0 Q (F0 m 5 ls []) := by
    intro n
    induction n with
    | zero => intro R_token R_behind R_number H locs ls h; rw [fX2_advanceNumber_c5] at h; cases h
    | succ n5 ih5 =>
      have hC72 : ∀ (R_token : Int32) (R_behind : Int32) (R_number : Int32) (t1 : Int32) (H : Heap) (locs : List Loc) (ls : Array Slot), fX2_advanceNumber_c72 R_length R_start R_tape (fX2_advanceNumber_c5 R_length R_start R_tape n5) R_token R_behind R_number t1 = some (R_token_z, R_behind_z, R_number_z) → va_P (dC, dI) vwCl [(aR, .inr (2, [.ref aR_tape, .ref aR_rounds, .int R_length, .int R_roundsRead, .int R_token, .int R_start, .int R_behind, .int R_number])), (aR_tape, .inl (cI, 300, .inl R_tape))] H → va_D A [(aR, .inr (2, [.ref aR_tape, .ref aR_rounds, .int R_length, .int R_roundsRead, .int R_token, .int R_start, .int R_behind, .int R_number])), (aR_tape, .inl (cI, 300, .inl R_tape))] → va_S A s.heap H locs → lv_has ls 1 [(0, .ref aR)] → W p l e rmX2_advanceNumber s m args below meth c H locs 0 0 Q (F0 m 72 ls [.int t1, .ref aR]) := by
        intro R_token R_behind R_number t1 H locs ls h hP hD hS hl
        unfold fX2_advanceNumber_c72 at h
        refine ka_put (w1 := [(aR, .inr (2, [.ref aR_tape, .ref aR_rounds, .int R_length, .int R_roundsRead, .int R_token, .int R_start, .int R_behind, .int t1])), (aR_tape, .inl (cI, 300, .inl R_tape))]) (C := RX2) (T := TX2) (Nf := 8) (ref := "BeepNet$Reader") hx hb hts hiX2 tyX2 tyX2_ok nmX2 hown hK hP hD hS 0 rfl rfl 7 (by decide) k_0 rfl rfl rfl (Nat.le_of_ble_eq_true rfl) dX2_advanceNumber_72 rfl (fun H locs hP hD hS => ?_)
        refine lv_aload_n hx hb dX2_advanceNumber_75 rfl (lv_at hl 0 rfl) ?_
        refine lv_dup hx hb dX2_advanceNumber_76 rfl ?_
        refine ka_get (v := .int R_behind) (C := RX2) (T := TX2) (Nf := 8) (ref := "BeepNet$Reader") hx hb hts hiX2 hown hK hP 0 rfl rfl 6 (by decide) k_1 rfl rfl dX2_advanceNumber_77 ?_
        refine lv_iconst (v := 1) hx hb dX2_advanceNumber_80 (by decide) ?_
        refine lv_iadd hx hb dX2_advanceNumber_81 ?_
        refine ka_put (w1 := [(aR, .inr (2, [.ref aR_tape, .ref aR_rounds, .int R_length, .int R_roundsRead, .int R_token, .int R_start, .int (R_behind + (1 : Int32)), .int t1])), (aR_tape, .inl (cI, 300, .inl R_tape))]) (C := RX2) (T := TX2) (Nf := 8) (ref := "BeepNet$Reader") hx hb hts hiX2 tyX2 tyX2_ok nmX2 hown hK hP hD hS 0 rfl rfl 6 (by decide) k_1 rfl rfl rfl (Nat.le_of_ble_eq_true rfl) dX2_advanceNumber_82 rfl (fun H locs hP hD hS => ?_)
        refine lv_goto (tgt := 5) hx hb dX2_advanceNumber_85 (by decide) ?_
        exact ih5 R_token (R_behind + (1 : Int32)) t1 _ _ _ h hP hD hS (lv_sub hl [0] rfl)
      intro R_token R_behind R_number H locs ls h hP hD hS hl
      rw [fX2_advanceNumber_c5] at h
      refine lv_aload_n hx hb dX2_advanceNumber_5 rfl (lv_at hl 0 rfl) ?_
      refine ka_get (v := .int R_behind) (C := RX2) (T := TX2) (Nf := 8) (ref := "BeepNet$Reader") hx hb hts hiX2 hown hK hP 0 rfl rfl 6 (by decide) k_1 rfl rfl dX2_advanceNumber_6 ?_
      refine lv_aload_n hx hb dX2_advanceNumber_9 rfl (lv_at hl 0 rfl) ?_
      refine ka_get (v := .int R_length) (C := RX2) (T := TX2) (Nf := 8) (ref := "BeepNet$Reader") hx hb hts hiX2 hown hK hP 0 rfl rfl 2 (by decide) k_4 rfl rfl dX2_advanceNumber_10 ?_
      refine lv_icmp_ge (tgt := 88) hx hb dX2_advanceNumber_13 (by decide) (fun c601 => ?_) (fun c601 => ?_)
      · have h := ift c601 h
        exact hC88 R_token R_behind R_number _ _ _ h hP hD hS (lv_sub hl [0] rfl)
      · have h := ifn c601 h
        refine lv_aload_n hx hb dX2_advanceNumber_16 rfl (lv_at hl 0 rfl) ?_
        refine ka_get (v := .ref aR_tape) (C := RX2) (T := TX2) (Nf := 8) (ref := "BeepNet$Reader") hx hb hts hiX2 hown hK hP 0 rfl rfl 0 (by decide) k_5 rfl rfl dX2_advanceNumber_17 ?_
        refine lv_aload_n hx hb dX2_advanceNumber_20 rfl (lv_at hl 0 rfl) ?_
        refine ka_get (v := .int R_behind) (C := RX2) (T := TX2) (Nf := 8) (ref := "BeepNet$Reader") hx hb hts hiX2 hown hK hP 0 rfl rfl 6 (by decide) k_1 rfl rfl dX2_advanceNumber_21 ?_
        obtain ⟨v602, ev602, hn603, h⟩ := ldx_s h
        refine ka_ild hx hb hK hP 1 0 ev602 rfl rfl hn603 dX2_advanceNumber_24 ?_
        obtain ⟨r604, e605, h⟩ := bd1_s h
        refine kc_si (rest := []) (wr := [(aR, .inr (2, [.ref aR_tape, .ref aR_rounds, .int R_length, .int R_roundsRead, .int R_token, .int R_start, .int R_behind, .int R_number])), (aR_tape, .inl (cI, 300, .inl R_tape))]) (wF := [(aR, .inr (2, [.ref aR_tape, .ref aR_rounds, .int R_length, .int R_roundsRead, .int R_token, .int R_start, .int R_behind, .int R_number])), (aR_tape, .inl (cI, 300, .inl R_tape))]) ⟨hx, hb, hml, hown, hts⟩ (c_X2_isFigure l dC dI cI cJ cZ cA v602 r604 e605) (va_cwS 1 hts gX2_advanceNumber_X2_isFigure rfl rfl rfl (by decide +kernel) ⟨Nat.le_of_ble_eq_true rfl, Nat.le_of_ble_eq_true rfl⟩) hK hP hD hS hA [] [0, 1] [0, 1] rfl rfl rfl rfl (by decide) rfl rfl rfl hl.1 rfl (Nat.le_of_ble_eq_true rfl) dX2_advanceNumber_25 ⟨Nat.zero_le _, Nat.zero_le _⟩ (fun H locs hP hD hS => ?_)
        refine lv_if_eq (tgt := 88) hx hb dX2_advanceNumber_28 (by decide) (fun c606 => ?_) (fun c606 => ?_)
        · have h := ift c606 h
          exact hC88 R_token R_behind R_number _ _ _ h hP hD hS (lv_sub hl [0] rfl)
        · have h := ifn c606 h
          refine lv_aload_n hx hb dX2_advanceNumber_31 rfl (lv_at hl 0 rfl) ?_
          refine lv_aload_n hx hb dX2_advanceNumber_32 rfl (lv_at hl 0 rfl) ?_
          refine ka_get (v := .int R_behind) (C := RX2) (T := TX2) (Nf := 8) (ref := "BeepNet$Reader") hx hb hts hiX2 hown hK hP 0 rfl rfl 6 (by decide) k_1 rfl rfl dX2_advanceNumber_33 ?_
          refine lv_aload_n hx hb dX2_advanceNumber_36 rfl (lv_at hl 0 rfl) ?_
          refine ka_get (v := .int R_start) (C := RX2) (T := TX2) (Nf := 8) (ref := "BeepNet$Reader") hx hb hts hiX2 hown hK hP 0 rfl rfl 5 (by decide) k_2 rfl rfl dX2_advanceNumber_37 ?_
          refine lv_isub hx hb dX2_advanceNumber_40 ?_
          refine lv_iconst (v := 2) hx hb dX2_advanceNumber_41 (by decide) ?_
          refine lv_icmp_ge (tgt := 68) hx hb dX2_advanceNumber_42 (by decide) (fun c607 => ?_) (fun c607 => ?_)
          · have h := ift c607 h
            refine lv_aload_n hx hb dX2_advanceNumber_68 rfl (lv_at hl 0 rfl) ?_
            refine ka_get (v := .int R_number) (C := RX2) (T := TX2) (Nf := 8) (ref := "BeepNet$Reader") hx hb hts hiX2 hown hK hP 0 rfl rfl 7 (by decide) k_0 rfl rfl dX2_advanceNumber_69 ?_
            exact hC72 R_token R_behind R_number R_number _ _ _ h hP hD hS (lv_sub hl [0] rfl)
          · have h := ifn c607 h
            refine lv_aload_n hx hb dX2_advanceNumber_45 rfl (lv_at hl 0 rfl) ?_
            refine ka_get (v := .int R_number) (C := RX2) (T := TX2) (Nf := 8) (ref := "BeepNet$Reader") hx hb hts hiX2 hown hK hP 0 rfl rfl 7 (by decide) k_0 rfl rfl dX2_advanceNumber_46 ?_
            refine lv_bipush (v := 10) hx hb dX2_advanceNumber_49 (by decide) ?_
            refine lv_imul hx hb dX2_advanceNumber_51 ?_
            refine lv_aload_n hx hb dX2_advanceNumber_52 rfl (lv_at hl 0 rfl) ?_
            refine ka_get (v := .ref aR_tape) (C := RX2) (T := TX2) (Nf := 8) (ref := "BeepNet$Reader") hx hb hts hiX2 hown hK hP 0 rfl rfl 0 (by decide) k_5 rfl rfl dX2_advanceNumber_53 ?_
            refine lv_aload_n hx hb dX2_advanceNumber_56 rfl (lv_at hl 0 rfl) ?_
            refine ka_get (v := .int R_behind) (C := RX2) (T := TX2) (Nf := 8) (ref := "BeepNet$Reader") hx hb hts hiX2 hown hK hP 0 rfl rfl 6 (by decide) k_1 rfl rfl dX2_advanceNumber_57 ?_
            obtain ⟨v608, ev608, hn609, h⟩ := ldx_s h
            refine ka_ild hx hb hK hP 1 0 ev608 rfl rfl hn609 dX2_advanceNumber_60 ?_
            refine lv_iadd hx hb dX2_advanceNumber_61 ?_
            refine lv_bipush (v := 48) hx hb dX2_advanceNumber_62 (by decide) ?_
            refine lv_isub hx hb dX2_advanceNumber_64 ?_
            refine lv_goto (tgt := 72) hx hb dX2_advanceNumber_65 (by decide) ?_
            exact hC72 R_token R_behind R_number (((R_number * (10 : Int32)) + v608) - (48 : Int32)) _ _ _ h hP hD hS (lv_sub hl [0] rfl)
  unfold fX2_advanceNumber at h
  refine lv_aload_n hx hb dX2_advanceNumber_0 rfl (lv_at hl 0 rfl) ?_
  refine lv_iconst (v := 0) hx hb dX2_advanceNumber_1 (by decide) ?_
  refine ka_put (w1 := [(aR, .inr (2, [.ref aR_tape, .ref aR_rounds, .int R_length, .int R_roundsRead, .int R_token, .int R_start, .int R_behind, .int 0])), (aR_tape, .inl (cI, 300, .inl R_tape))]) (C := RX2) (T := TX2) (Nf := 8) (ref := "BeepNet$Reader") hx hb hts hiX2 tyX2 tyX2_ok nmX2 hown hK hP hD hS 0 rfl rfl 7 (by decide) k_0 rfl rfl rfl (Nat.le_of_ble_eq_true rfl) dX2_advanceNumber_2 rfl (fun H locs hP hD hS => ?_)
  exact hC5 FU R_token R_behind 0 _ _ _ h hP hD hS (lv_sub hl [0] rfl)
set_option maxHeartbeats 4000000 in
set_option maxRecDepth 100000 in
theorem c_X2_advance (l : Launch) (dC : Nat → ClassId) (dI : Nat → Nat → Nat) (cI cJ cZ cA : ClassId) (sk sv : Nat → Nat) (aR aR_tape aR_rounds : Nat) (R_length : Int32) (R_roundsRead : Int32) (R_token : Int32) (R_start : Int32) (R_behind : Int32) (R_number : Int32) (R_tape : Nat → Int32) (R_token_z : Int32) (R_start_z : Int32) (R_behind_z : Int32) (R_number_z : Int32) (h : fX2_advance R_length R_token R_start R_behind R_number R_tape = some (R_token_z, R_start_z, R_behind_z, R_number_z)) : CtvX l yX2_advance wsX2_advance rmX2_advance (dC, dI) (tyL cI cJ cZ cA) sk sv [(aR, .inr (2, [.ref aR_tape, .ref aR_rounds, .int R_length, .int R_roundsRead, .int R_token, .int R_start, .int R_behind, .int R_number])), (aR_tape, .inl (cI, 300, .inl R_tape))] [(aR, .inr (2, [.ref aR_tape, .ref aR_rounds, .int R_length, .int R_roundsRead, .int R_token_z, .int R_start_z, .int R_behind_z, .int R_number_z])), (aR_tape, .inl (cI, 300, .inl R_tape))] [.ref aR] := by
  refine ct_voidX (cc := cX2_advance) (maxL := 1) (by decide) rfl (Nat.le_of_ble_eq_true rfl) ?_
  intro p e s m args below meth c A Q ls hx hb hml hown hts hA hK hP hD hS hl hret hX
  have hl : lv_has ls 1 [(0, .ref aR)] := hl
  have k_0 := hts (.fieldLink RX2 33 "BeepNet$Reader" "start" "I") (by decide +kernel)
  have k_1 := hts (.fieldLink RX2 36 "BeepNet$Reader" "behind" "I") (by decide +kernel)
  have k_2 := hts (.fieldLink RX2 18 "BeepNet$Reader" "length" "I") (by decide +kernel)
  have k_3 := hts (.fieldLink RX2 9 "BeepNet$Reader" "tape" "[I") (by decide +kernel)
  have k_4 := hts (.fieldLink RX2 42 "BeepNet$Reader" "token" "I") (by decide +kernel)
  have hiX2 : ∀ w ∈ u_ws RX2 TX2 8, w ∈ wsX2_advance := fun w hw => List.mem_cons_of_mem _ (List.mem_append_right _ hw)
  have hC60 : ∀ (R_token : Int32) (R_start : Int32) (R_behind : Int32) (R_number : Int32) (H : Heap) (locs : List Loc) (ls : Array Slot), fX2_advance_c60 R_length R_tape R_token R_start R_behind R_number = some (R_token_z, R_start_z, R_behind_z, R_number_z) → va_P (dC, dI) vwCl [(aR, .inr (2, [.ref aR_tape, .ref aR_rounds, .int R_length, .int R_roundsRead, .int R_token, .int R_start, .int R_behind, .int R_number])), (aR_tape, .inl (cI, 300, .inl R_tape))] H → va_D A [(aR, .inr (2, [.ref aR_tape, .ref aR_rounds, .int R_length, .int R_roundsRead, .int R_token, .int R_start, .int R_behind, .int R_number])), (aR_tape, .inl (cI, 300, .inl R_tape))] → va_S A s.heap H locs → lv_has ls 1 [(0, .ref aR)] → W p l e rmX2_advance s m args below meth c H locs 0 0 Q (F0 m 60 ls []) := by
    intro R_token R_start R_behind R_number H locs ls h hP hD hS hl
    unfold fX2_advance_c60 at h
    refine lv_aload_n hx hb dX2_advance_60 rfl (lv_at hl 0 rfl) ?_
    refine lv_aload_n hx hb dX2_advance_61 rfl (lv_at hl 0 rfl) ?_
    refine ka_get (v := .int R_start) (C := RX2) (T := TX2) (Nf := 8) (ref := "BeepNet$Reader") hx hb hts hiX2 hown hK hP 0 rfl rfl 5 (by decide) k_0 rfl rfl dX2_advance_62 ?_
    refine ka_put (w1 := [(aR, .inr (2, [.ref aR_tape, .ref aR_rounds, .int R_length, .int R_roundsRead, .int R_token, .int R_start, .int R_start, .int R_number])), (aR_tape, .inl (cI, 300, .inl R_tape))]) (C := RX2) (T := TX2) (Nf := 8) (ref := "BeepNet$Reader") hx hb hts hiX2 tyX2 tyX2_ok nmX2 hown hK hP hD hS 0 rfl rfl 6 (by decide) k_1 rfl rfl rfl (Nat.le_of_ble_eq_true rfl) dX2_advance_65 rfl (fun H locs hP hD hS => ?_)
    refine lv_aload_n hx hb dX2_advance_68 rfl (lv_at hl 0 rfl) ?_
    refine ka_get (v := .int R_start) (C := RX2) (T := TX2) (Nf := 8) (ref := "BeepNet$Reader") hx hb hts hiX2 hown hK hP 0 rfl rfl 5 (by decide) k_0 rfl rfl dX2_advance_69 ?_
    refine lv_aload_n hx hb dX2_advance_72 rfl (lv_at hl 0 rfl) ?_
    refine ka_get (v := .int R_length) (C := RX2) (T := TX2) (Nf := 8) (ref := "BeepNet$Reader") hx hb hts hiX2 hown hK hP 0 rfl rfl 2 (by decide) k_2 rfl rfl dX2_advance_73 ?_
    refine lv_icmp_lt (tgt := 87) hx hb dX2_advance_76 (by decide) (fun c6101 => ?_) (fun c6101 => ?_)
    · have h := ift c6101 h
      refine lv_aload_n hx hb dX2_advance_87 rfl (lv_at hl 0 rfl) ?_
      refine ka_get (v := .ref aR_tape) (C := RX2) (T := TX2) (Nf := 8) (ref := "BeepNet$Reader") hx hb hts hiX2 hown hK hP 0 rfl rfl 0 (by decide) k_3 rfl rfl dX2_advance_88 ?_
      refine lv_aload_n hx hb dX2_advance_91 rfl (lv_at hl 0 rfl) ?_
      refine ka_get (v := .int R_start) (C := RX2) (T := TX2) (Nf := 8) (ref := "BeepNet$Reader") hx hb hts hiX2 hown hK hP 0 rfl rfl 5 (by decide) k_0 rfl rfl dX2_advance_92 ?_
      obtain ⟨v6102, ev6102, hn6103, h⟩ := ldx_s h
      refine ka_ild hx hb hK hP 1 0 ev6102 rfl rfl hn6103 dX2_advance_95 ?_
      obtain ⟨r6104, e6105, h⟩ := bd1_s h
      refine kc_si (rest := []) (wr := [(aR, .inr (2, [.ref aR_tape, .ref aR_rounds, .int R_length, .int R_roundsRead, .int R_token, .int R_start, .int R_start, .int R_number])), (aR_tape, .inl (cI, 300, .inl R_tape))]) (wF := [(aR, .inr (2, [.ref aR_tape, .ref aR_rounds, .int R_length, .int R_roundsRead, .int R_token, .int R_start, .int R_start, .int R_number])), (aR_tape, .inl (cI, 300, .inl R_tape))]) ⟨hx, hb, hml, hown, hts⟩ (c_X2_isLetter l dC dI cI cJ cZ cA v6102 r6104 e6105) (va_cwS 1 hts gX2_advance_X2_isLetter rfl rfl rfl (by decide +kernel) ⟨Nat.le_of_ble_eq_true rfl, Nat.le_of_ble_eq_true rfl⟩) hK hP hD hS hA [] [0, 1] [0, 1] rfl rfl rfl rfl (by decide) rfl rfl rfl hl.1 rfl (Nat.le_of_ble_eq_true rfl) dX2_advance_96 ⟨Nat.zero_le _, Nat.zero_le _⟩ (fun H locs hP hD hS => ?_)
      refine lv_if_eq (tgt := 109) hx hb dX2_advance_99 (by decide) (fun c6106 => ?_) (fun c6106 => ?_)
      · have h := ift c6106 h
        refine lv_aload_n hx hb dX2_advance_109 rfl (lv_at hl 0 rfl) ?_
        refine ka_get (v := .ref aR_tape) (C := RX2) (T := TX2) (Nf := 8) (ref := "BeepNet$Reader") hx hb hts hiX2 hown hK hP 0 rfl rfl 0 (by decide) k_3 rfl rfl dX2_advance_110 ?_
        refine lv_aload_n hx hb dX2_advance_113 rfl (lv_at hl 0 rfl) ?_
        refine ka_get (v := .int R_start) (C := RX2) (T := TX2) (Nf := 8) (ref := "BeepNet$Reader") hx hb hts hiX2 hown hK hP 0 rfl rfl 5 (by decide) k_0 rfl rfl dX2_advance_114 ?_
        obtain ⟨v6107, ev6107, hn6108, h⟩ := ldx_s h
        refine ka_ild hx hb hK hP 1 0 ev6107 rfl rfl hn6108 dX2_advance_117 ?_
        obtain ⟨r6109, e6110, h⟩ := bd1_s h
        refine kc_si (rest := []) (wr := [(aR, .inr (2, [.ref aR_tape, .ref aR_rounds, .int R_length, .int R_roundsRead, .int R_token, .int R_start, .int R_start, .int R_number])), (aR_tape, .inl (cI, 300, .inl R_tape))]) (wF := [(aR, .inr (2, [.ref aR_tape, .ref aR_rounds, .int R_length, .int R_roundsRead, .int R_token, .int R_start, .int R_start, .int R_number])), (aR_tape, .inl (cI, 300, .inl R_tape))]) ⟨hx, hb, hml, hown, hts⟩ (c_X2_isFigure l dC dI cI cJ cZ cA v6107 r6109 e6110) (va_cwS 1 hts gX2_advance_X2_isFigure rfl rfl rfl (by decide +kernel) ⟨Nat.le_of_ble_eq_true rfl, Nat.le_of_ble_eq_true rfl⟩) hK hP hD hS hA [] [0, 1] [0, 1] rfl rfl rfl rfl (by decide) rfl rfl rfl hl.1 rfl (Nat.le_of_ble_eq_true rfl) dX2_advance_118 ⟨Nat.zero_le _, Nat.zero_le _⟩ (fun H locs hP hD hS => ?_)
        refine lv_if_eq (tgt := 131) hx hb dX2_advance_121 (by decide) (fun c6111 => ?_) (fun c6111 => ?_)
        · have h := ift c6111 h
          refine lv_aload_n hx hb dX2_advance_131 rfl (lv_at hl 0 rfl) ?_
          refine lv_aload_n hx hb dX2_advance_132 rfl (lv_at hl 0 rfl) ?_
          refine ka_get (v := .int R_start) (C := RX2) (T := TX2) (Nf := 8) (ref := "BeepNet$Reader") hx hb hts hiX2 hown hK hP 0 rfl rfl 5 (by decide) k_0 rfl rfl dX2_advance_133 ?_
          refine lv_iconst (v := 1) hx hb dX2_advance_136 (by decide) ?_
          refine lv_iadd hx hb dX2_advance_137 ?_
          refine ka_put (w1 := [(aR, .inr (2, [.ref aR_tape, .ref aR_rounds, .int R_length, .int R_roundsRead, .int R_token, .int R_start, .int (R_start + (1 : Int32)), .int R_number])), (aR_tape, .inl (cI, 300, .inl R_tape))]) (C := RX2) (T := TX2) (Nf := 8) (ref := "BeepNet$Reader") hx hb hts hiX2 tyX2 tyX2_ok nmX2 hown hK hP hD hS 0 rfl rfl 6 (by decide) k_1 rfl rfl rfl (Nat.le_of_ble_eq_true rfl) dX2_advance_138 rfl (fun H locs hP hD hS => ?_)
          refine lv_aload_n hx hb dX2_advance_141 rfl (lv_at hl 0 rfl) ?_
          refine lv_aload_n hx hb dX2_advance_142 rfl (lv_at hl 0 rfl) ?_
          refine ka_get (v := .ref aR_tape) (C := RX2) (T := TX2) (Nf := 8) (ref := "BeepNet$Reader") hx hb hts hiX2 hown hK hP 0 rfl rfl 0 (by decide) k_3 rfl rfl dX2_advance_143 ?_
          refine lv_aload_n hx hb dX2_advance_146 rfl (lv_at hl 0 rfl) ?_
          refine ka_get (v := .int R_start) (C := RX2) (T := TX2) (Nf := 8) (ref := "BeepNet$Reader") hx hb hts hiX2 hown hK hP 0 rfl rfl 5 (by decide) k_0 rfl rfl dX2_advance_147 ?_
          obtain ⟨v6112, ev6112, hn6113, h⟩ := ldx_s h
          refine ka_ild hx hb hK hP 1 0 ev6112 rfl rfl hn6113 dX2_advance_150 ?_
          refine lv_bipush (v := 59) hx hb dX2_advance_151 (by decide) ?_
          refine lv_icmp_ne (tgt := 161) hx hb dX2_advance_153 (by decide) (fun c6114 => ?_) (fun c6114 => ?_)
          · have h := ifn c6114 h
            refine lv_iconst (v := 1) hx hb dX2_advance_161 (by decide) ?_
            refine ka_put (w1 := [(aR, .inr (2, [.ref aR_tape, .ref aR_rounds, .int R_length, .int R_roundsRead, .int 1, .int R_start, .int (R_start + (1 : Int32)), .int R_number])), (aR_tape, .inl (cI, 300, .inl R_tape))]) (C := RX2) (T := TX2) (Nf := 8) (ref := "BeepNet$Reader") hx hb hts hiX2 tyX2 tyX2_ok nmX2 hown hK hP hD hS 0 rfl rfl 4 (by decide) k_4 rfl rfl rfl (Nat.le_of_ble_eq_true rfl) dX2_advance_162 rfl (fun H locs hP hD hS => ?_)
            obtain ⟨rfl, rfl, rfl, rfl⟩ := sj4 h
            exact hret _ _ _ _ hP hD hS dX2_advance_165
          · have h := ift c6114 h
            refine lv_bipush (v := 6) hx hb dX2_advance_156 (by decide) ?_
            refine lv_goto (tgt := 162) hx hb dX2_advance_158 (by decide) ?_
            refine ka_put (w1 := [(aR, .inr (2, [.ref aR_tape, .ref aR_rounds, .int R_length, .int R_roundsRead, .int 6, .int R_start, .int (R_start + (1 : Int32)), .int R_number])), (aR_tape, .inl (cI, 300, .inl R_tape))]) (C := RX2) (T := TX2) (Nf := 8) (ref := "BeepNet$Reader") hx hb hts hiX2 tyX2 tyX2_ok nmX2 hown hK hP hD hS 0 rfl rfl 4 (by decide) k_4 rfl rfl rfl (Nat.le_of_ble_eq_true rfl) dX2_advance_162 rfl (fun H locs hP hD hS => ?_)
            obtain ⟨rfl, rfl, rfl, rfl⟩ := sj4 h
            exact hret _ _ _ _ hP hD hS dX2_advance_165
        · have h := ifn c6111 h
          refine lv_aload_n hx hb dX2_advance_124 rfl (lv_at hl 0 rfl) ?_
          obtain ⟨R_token_6115, R_behind_6116, R_number_6117, e6118, h⟩ := bd3_s h
          refine kc_vv (rest := []) (wr := []) (wF := [(aR, .inr (2, [.ref aR_tape, .ref aR_rounds, .int R_length, .int R_roundsRead, .int R_token_6115, .int R_start, .int R_behind_6116, .int R_number_6117])), (aR_tape, .inl (cI, 300, .inl R_tape))]) ⟨hx, hb, hml, hown, hts⟩ (c_X2_advanceNumber l dC dI cI cJ cZ cA aR aR_tape aR_rounds R_length R_roundsRead R_token R_start R_start R_number R_tape R_token_6115 R_behind_6116 R_number_6117 e6118) (cwV 0 hts gX2_advance_X2_advanceNumber rfl rfl rfl (by decide +kernel) ⟨Nat.le_of_ble_eq_true rfl, Nat.le_of_ble_eq_true rfl⟩) hK hP hD hS hA [0, 1] [] [0, 1] 0 rfl rfl rfl rfl (by decide) rfl rfl rfl rfl rfl rfl hl.1 rfl (Nat.le_of_ble_eq_true rfl) dX2_advance_125 ⟨Nat.zero_le _, Nat.zero_le _⟩ (fun H locs hP hD hS => ?_)
          refine lv_goto (tgt := 165) hx hb dX2_advance_128 (by decide) ?_
          obtain ⟨rfl, rfl, rfl, rfl⟩ := sj4 h
          exact hret _ _ _ _ hP hD hS dX2_advance_165
      · have h := ifn c6106 h
        refine lv_aload_n hx hb dX2_advance_102 rfl (lv_at hl 0 rfl) ?_
        obtain ⟨R_token_6119, R_behind_6120, e6121, h⟩ := bd2_s h
        refine kc_vvX hX (rest := []) (wr := []) (wF := [(aR, .inr (2, [.ref aR_tape, .ref aR_rounds, .int R_length, .int R_roundsRead, .int R_token_6119, .int R_start, .int R_behind_6120, .int R_number])), (aR_tape, .inl (cI, 300, .inl R_tape))]) ⟨hx, hb, hml, hown, hts⟩ (c_X2_advanceName l dC dI cI cJ cZ cA sk sv aR aR_tape aR_rounds R_length R_roundsRead R_token R_start R_start R_number R_tape R_token_6119 R_behind_6120 e6121) (cwV 0 hts gX2_advance_X2_advanceName rfl rfl rfl (by decide +kernel) ⟨Nat.le_of_ble_eq_true rfl, Nat.le_of_ble_eq_true rfl⟩) hK hP hD hS hA [0, 1] [] [0, 1] 0 rfl rfl rfl rfl (by decide) rfl rfl rfl rfl rfl rfl hl.1 rfl (Nat.le_of_ble_eq_true rfl) dX2_advance_103 ⟨Nat.zero_le _, Nat.zero_le _⟩ (fun H locs hP hD hS => ?_)
        refine lv_goto (tgt := 165) hx hb dX2_advance_106 (by decide) ?_
        obtain ⟨rfl, rfl, rfl, rfl⟩ := sj4 h
        exact hret _ _ _ _ hP hD hS dX2_advance_165
    · have h := ifn c6101 h
      refine lv_aload_n hx hb dX2_advance_79 rfl (lv_at hl 0 rfl) ?_
      refine lv_iconst (v := 0) hx hb dX2_advance_80 (by decide) ?_
      refine ka_put (w1 := [(aR, .inr (2, [.ref aR_tape, .ref aR_rounds, .int R_length, .int R_roundsRead, .int 0, .int R_start, .int R_start, .int R_number])), (aR_tape, .inl (cI, 300, .inl R_tape))]) (C := RX2) (T := TX2) (Nf := 8) (ref := "BeepNet$Reader") hx hb hts hiX2 tyX2 tyX2_ok nmX2 hown hK hP hD hS 0 rfl rfl 4 (by decide) k_4 rfl rfl rfl (Nat.le_of_ble_eq_true rfl) dX2_advance_81 rfl (fun H locs hP hD hS => ?_)
      refine lv_goto (tgt := 165) hx hb dX2_advance_84 (by decide) ?_
      obtain ⟨rfl, rfl, rfl, rfl⟩ := sj4 h
      exact hret _ _ _ _ hP hD hS dX2_advance_165
  have hC8 : ∀ (n : Nat) (R_token : Int32) (R_start : Int32) (R_behind : Int32) (R_number : Int32) (H : Heap) (locs : List Loc) (ls : Array Slot), fX2_advance_c8 R_length R_tape n R_token R_start R_behind R_number = some (R_token_z, R_start_z, R_behind_z, R_number_z) → va_P (dC, dI) vwCl [(aR, .inr (2, [.ref aR_tape, .ref aR_rounds, .int R_length, .int R_roundsRead, .int R_token, .int R_start, .int R_behind, .int R_number])), (aR_tape, .inl (cI, 300, .inl R_tape))] H → va_D A [(aR, .inr (2, [.ref aR_tape, .ref aR_rounds, .int R_length, .int R_roundsRead, .int R_token, .int R_start, .int R_behind, .int R_number])), (aR_tape, .inl (cI, 300, .inl R_tape))] → va_S A s.heap H locs → lv_has ls 1 [(0, .ref aR)] → W p l e rmX2_advance s m args below meth c H locs 0 0 Q (F0 m 8 ls []) := by
    intro n
    induction n with
    | zero => intro R_token R_start R_behind R_number H locs ls h; rw [fX2_advance_c8] at h; cases h
    | succ n8 ih8 =>
      have hC47 : ∀ (R_token : Int32) (R_start : Int32) (R_behind : Int32) (R_number : Int32) (H : Heap) (locs : List Loc) (ls : Array Slot), fX2_advance_c47 R_length R_tape (fX2_advance_c8 R_length R_tape n8) R_token R_start R_behind R_number = some (R_token_z, R_start_z, R_behind_z, R_number_z) → va_P (dC, dI) vwCl [(aR, .inr (2, [.ref aR_tape, .ref aR_rounds, .int R_length, .int R_roundsRead, .int R_token, .int R_start, .int R_behind, .int R_number])), (aR_tape, .inl (cI, 300, .inl R_tape))] H → va_D A [(aR, .inr (2, [.ref aR_tape, .ref aR_rounds, .int R_length, .int R_roundsRead, .int R_token, .int R_start, .int R_behind, .int R_number])), (aR_tape, .inl (cI, 300, .inl R_tape))] → va_S A s.heap H locs → lv_has ls 1 [(0, .ref aR)] → W p l e rmX2_advance s m args below meth c H locs 0 0 Q (F0 m 47 ls []) := by
        intro R_token R_start R_behind R_number H locs ls h hP hD hS hl
        unfold fX2_advance_c47 at h
        refine lv_aload_n hx hb dX2_advance_47 rfl (lv_at hl 0 rfl) ?_
        refine lv_dup hx hb dX2_advance_48 rfl ?_
        refine ka_get (v := .int R_start) (C := RX2) (T := TX2) (Nf := 8) (ref := "BeepNet$Reader") hx hb hts hiX2 hown hK hP 0 rfl rfl 5 (by decide) k_0 rfl rfl dX2_advance_49 ?_
        refine lv_iconst (v := 1) hx hb dX2_advance_52 (by decide) ?_
        refine lv_iadd hx hb dX2_advance_53 ?_
        refine ka_put (w1 := [(aR, .inr (2, [.ref aR_tape, .ref aR_rounds, .int R_length, .int R_roundsRead, .int R_token, .int (R_start + (1 : Int32)), .int R_behind, .int R_number])), (aR_tape, .inl (cI, 300, .inl R_tape))]) (C := RX2) (T := TX2) (Nf := 8) (ref := "BeepNet$Reader") hx hb hts hiX2 tyX2 tyX2_ok nmX2 hown hK hP hD hS 0 rfl rfl 5 (by decide) k_0 rfl rfl rfl (Nat.le_of_ble_eq_true rfl) dX2_advance_54 rfl (fun H locs hP hD hS => ?_)
        refine lv_goto (tgt := 8) hx hb dX2_advance_57 (by decide) ?_
        exact ih8 R_token (R_start + (1 : Int32)) R_behind R_number _ _ _ h hP hD hS (lv_sub hl [0] rfl)
      intro R_token R_start R_behind R_number H locs ls h hP hD hS hl
      rw [fX2_advance_c8] at h
      refine lv_aload_n hx hb dX2_advance_8 rfl (lv_at hl 0 rfl) ?_
      refine ka_get (v := .int R_start) (C := RX2) (T := TX2) (Nf := 8) (ref := "BeepNet$Reader") hx hb hts hiX2 hown hK hP 0 rfl rfl 5 (by decide) k_0 rfl rfl dX2_advance_9 ?_
      refine lv_aload_n hx hb dX2_advance_12 rfl (lv_at hl 0 rfl) ?_
      refine ka_get (v := .int R_length) (C := RX2) (T := TX2) (Nf := 8) (ref := "BeepNet$Reader") hx hb hts hiX2 hown hK hP 0 rfl rfl 2 (by decide) k_2 rfl rfl dX2_advance_13 ?_
      refine lv_icmp_ge (tgt := 60) hx hb dX2_advance_16 (by decide) (fun c901 => ?_) (fun c901 => ?_)
      · have h := ift c901 h
        exact hC60 R_token R_start R_behind R_number _ _ _ h hP hD hS (lv_sub hl [0] rfl)
      · have h := ifn c901 h
        refine lv_aload_n hx hb dX2_advance_19 rfl (lv_at hl 0 rfl) ?_
        refine ka_get (v := .ref aR_tape) (C := RX2) (T := TX2) (Nf := 8) (ref := "BeepNet$Reader") hx hb hts hiX2 hown hK hP 0 rfl rfl 0 (by decide) k_3 rfl rfl dX2_advance_20 ?_
        refine lv_aload_n hx hb dX2_advance_23 rfl (lv_at hl 0 rfl) ?_
        refine ka_get (v := .int R_start) (C := RX2) (T := TX2) (Nf := 8) (ref := "BeepNet$Reader") hx hb hts hiX2 hown hK hP 0 rfl rfl 5 (by decide) k_0 rfl rfl dX2_advance_24 ?_
        obtain ⟨v902, ev902, hn903, h⟩ := ldx_s h
        refine ka_ild hx hb hK hP 1 0 ev902 rfl rfl hn903 dX2_advance_27 ?_
        refine lv_bipush (v := 32) hx hb dX2_advance_28 (by decide) ?_
        refine lv_icmp_eq (tgt := 47) hx hb dX2_advance_30 (by decide) (fun c904 => ?_) (fun c904 => ?_)
        · have h := ift c904 h
          exact hC47 R_token R_start R_behind R_number _ _ _ h hP hD hS (lv_sub hl [0] rfl)
        · have h := ifn c904 h
          refine lv_aload_n hx hb dX2_advance_33 rfl (lv_at hl 0 rfl) ?_
          refine ka_get (v := .ref aR_tape) (C := RX2) (T := TX2) (Nf := 8) (ref := "BeepNet$Reader") hx hb hts hiX2 hown hK hP 0 rfl rfl 0 (by decide) k_3 rfl rfl dX2_advance_34 ?_
          refine lv_aload_n hx hb dX2_advance_37 rfl (lv_at hl 0 rfl) ?_
          refine ka_get (v := .int R_start) (C := RX2) (T := TX2) (Nf := 8) (ref := "BeepNet$Reader") hx hb hts hiX2 hown hK hP 0 rfl rfl 5 (by decide) k_0 rfl rfl dX2_advance_38 ?_
          obtain ⟨v905, ev905, hn906, h⟩ := ldx_s h
          refine ka_ild hx hb hK hP 1 0 ev905 rfl rfl hn906 dX2_advance_41 ?_
          refine lv_bipush (v := 10) hx hb dX2_advance_42 (by decide) ?_
          refine lv_icmp_ne (tgt := 60) hx hb dX2_advance_44 (by decide) (fun c907 => ?_) (fun c907 => ?_)
          · have h := ifn c907 h
            exact hC60 R_token R_start R_behind R_number _ _ _ h hP hD hS (lv_sub hl [0] rfl)
          · have h := ift c907 h
            exact hC47 R_token R_start R_behind R_number _ _ _ h hP hD hS (lv_sub hl [0] rfl)
  unfold fX2_advance at h
  refine lv_aload_n hx hb dX2_advance_0 rfl (lv_at hl 0 rfl) ?_
  refine lv_aload_n hx hb dX2_advance_1 rfl (lv_at hl 0 rfl) ?_
  refine ka_get (v := .int R_behind) (C := RX2) (T := TX2) (Nf := 8) (ref := "BeepNet$Reader") hx hb hts hiX2 hown hK hP 0 rfl rfl 6 (by decide) k_1 rfl rfl dX2_advance_2 ?_
  refine ka_put (w1 := [(aR, .inr (2, [.ref aR_tape, .ref aR_rounds, .int R_length, .int R_roundsRead, .int R_token, .int R_behind, .int R_behind, .int R_number])), (aR_tape, .inl (cI, 300, .inl R_tape))]) (C := RX2) (T := TX2) (Nf := 8) (ref := "BeepNet$Reader") hx hb hts hiX2 tyX2 tyX2_ok nmX2 hown hK hP hD hS 0 rfl rfl 5 (by decide) k_0 rfl rfl rfl (Nat.le_of_ble_eq_true rfl) dX2_advance_5 rfl (fun H locs hP hD hS => ?_)
  exact hC8 FU R_token R_behind R_behind R_number _ _ _ h hP hD hS (lv_sub hl [0] rfl)
