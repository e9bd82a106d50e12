set_option maxHeartbeats 4000000 in
set_option maxRecDepth 100000 in
theorem c_X2_faultOfWord (l : Launch) (dC : Nat → ClassId) (dI : Nat → Nat → Nat) (cI cJ cZ cA : ClassId) (aR aR_tape aR_rounds : Nat) (R_length : Int32) (R_roundsRead : Int32) (R_token : Int32) (R_start : Int32) (R_behind : Int32) (R_number : Int32) (rr : Int32) (h : fX2_faultOfWord R_roundsRead R_token = some rr) : Cti l yX2_faultOfWord wsX2_faultOfWord rmX2_faultOfWord (dC, dI) (tyL cI cJ cZ cA) [(aR, .inr (2, [.ref aR_tape, .ref aR_rounds, .int R_length, .int R_roundsRead, .int R_token, .int R_start, .int R_behind, .int R_number]))] [(aR, .inr (2, [.ref aR_tape, .ref aR_rounds, .int R_length, .int R_roundsRead, .int R_token, .int R_start, .int R_behind, .int R_number]))] [.ref aR] rr := by
  refine ct_int (ty := .int) (cc := cX2_faultOfWord) (maxL := 1) (by decide) rfl (Nat.le_of_ble_eq_true rfl) ?_
  intro p e s m args below meth c A Q ls hx hb hml hown hts hA hK hP hD hS hl hret
  have hl : lv_has ls 1 [(0, .ref aR)] := hl
  have k_0 := hts (.fieldLink RX2 24 "BeepNet$Reader" "roundsRead" "I") (by decide +kernel)
  have k_1 := hts (.fieldLink RX2 42 "BeepNet$Reader" "token" "I") (by decide +kernel)
  have hiX2 : ∀ w ∈ u_ws RX2 TX2 8, w ∈ wsX2_faultOfWord := fun w hw => List.mem_cons_of_mem _ (List.mem_append_right _ hw)
  have hC43 : ∀ (H : Heap) (locs : List Loc) (ls : Array Slot), fX2_faultOfWord_c43 R_roundsRead R_token = some rr → va_P (dC, dI) vwCl [(aR, .inr (2, [.ref aR_tape, .ref aR_rounds, .int R_length, .int R_roundsRead, .int R_token, .int R_start, .int R_behind, .int R_number]))] H → va_D A [(aR, .inr (2, [.ref aR_tape, .ref aR_rounds, .int R_length, .int R_roundsRead, .int R_token, .int R_start, .int R_behind, .int R_number]))] → va_S A s.heap H locs → lv_has ls 1 [(0, .ref aR)] → W p l e rmX2_faultOfWord s m args below meth c H locs 0 0 Q (F0 m 43 ls []) := by
    intro  H locs ls h hP hD hS hl
    unfold fX2_faultOfWord_c43 at h
    refine lv_aload_n hx hb dX2_faultOfWord_43 rfl (lv_at hl 0 rfl) ?_
    refine ka_get (v := .int R_roundsRead) (C := RX2) (T := TX2) (Nf := 8) (ref := "BeepNet$Reader") hx hb hts hiX2 hown hK hP 0 rfl rfl 3 (by decide) k_0 rfl rfl dX2_faultOfWord_44 ?_
    refine lv_bipush (v := 20) hx hb dX2_faultOfWord_47 (by decide) ?_
    refine lv_icmp_lt (tgt := 56) hx hb dX2_faultOfWord_49 (by decide) (fun c4401 => ?_) (fun c4401 => ?_)
    · have h := ift c4401 h
      refine lv_iconst (v := 0) hx hb dX2_faultOfWord_56 (by decide) ?_
      obtain rfl := sj1 h
      exact hret _ _ _ _ _ rfl rfl hP hD hS dX2_faultOfWord_57
    · have h := ifn c4401 h
      refine lv_iconst (v := 3) hx hb dX2_faultOfWord_52 (by decide) ?_
      refine lv_goto (tgt := 57) hx hb dX2_faultOfWord_53 (by decide) ?_
      obtain rfl := sj1 h
      exact hret _ _ _ _ _ rfl rfl hP hD hS dX2_faultOfWord_57
  have hC26 : ∀ (H : Heap) (locs : List Loc) (ls : Array Slot), fX2_faultOfWord_c26 R_roundsRead R_token = some rr → va_P (dC, dI) vwCl [(aR, .inr (2, [.ref aR_tape, .ref aR_rounds, .int R_length, .int R_roundsRead, .int R_token, .int R_start, .int R_behind, .int R_number]))] H → va_D A [(aR, .inr (2, [.ref aR_tape, .ref aR_rounds, .int R_length, .int R_roundsRead, .int R_token, .int R_start, .int R_behind, .int R_number]))] → va_S A s.heap H locs → lv_has ls 1 [(0, .ref aR)] → W p l e rmX2_faultOfWord s m args below meth c H locs 0 0 Q (F0 m 26 ls []) := by
    intro  H locs ls h hP hD hS hl
    unfold fX2_faultOfWord_c26 at h
    refine lv_aload_n hx hb dX2_faultOfWord_26 rfl (lv_at hl 0 rfl) ?_
    refine ka_get (v := .int R_token) (C := RX2) (T := TX2) (Nf := 8) (ref := "BeepNet$Reader") hx hb hts hiX2 hown hK hP 0 rfl rfl 4 (by decide) k_1 rfl rfl dX2_faultOfWord_27 ?_
    refine lv_iconst (v := 4) hx hb dX2_faultOfWord_30 (by decide) ?_
    refine lv_icmp_ne (tgt := 43) hx hb dX2_faultOfWord_31 (by decide) (fun c2701 => ?_) (fun c2701 => ?_)
    · have h := ifn c2701 h
      exact hC43  _ _ _ h hP hD hS (lv_sub hl [0] rfl)
    · have h := ift c2701 h
      refine lv_aload_n hx hb dX2_faultOfWord_34 rfl (lv_at hl 0 rfl) ?_
      refine ka_get (v := .int R_roundsRead) (C := RX2) (T := TX2) (Nf := 8) (ref := "BeepNet$Reader") hx hb hts hiX2 hown hK hP 0 rfl rfl 3 (by decide) k_0 rfl rfl dX2_faultOfWord_35 ?_
      refine lv_if_ne (tgt := 43) hx hb dX2_faultOfWord_38 (by decide) (fun c2702 => ?_) (fun c2702 => ?_)
      · have h := ifn c2702 h
        exact hC43  _ _ _ h hP hD hS (lv_sub hl [0] rfl)
      · have h := ift c2702 h
        refine lv_iconst (v := 2) hx hb dX2_faultOfWord_41 (by decide) ?_
        obtain rfl := sj1 h
        exact hret _ _ _ _ _ rfl rfl hP hD hS dX2_faultOfWord_42
  unfold fX2_faultOfWord at h
  refine lv_aload_n hx hb dX2_faultOfWord_0 rfl (lv_at hl 0 rfl) ?_
  refine ka_get (v := .int R_token) (C := RX2) (T := TX2) (Nf := 8) (ref := "BeepNet$Reader") hx hb hts hiX2 hown hK hP 0 rfl rfl 4 (by decide) k_1 rfl rfl dX2_faultOfWord_1 ?_
  refine lv_iconst (v := 2) hx hb dX2_faultOfWord_4 (by decide) ?_
  refine lv_icmp_eq (tgt := 26) hx hb dX2_faultOfWord_5 (by decide) (fun c1 => ?_) (fun c1 => ?_)
  · have h := ift c1 h
    exact hC26  _ _ _ h hP hD hS (lv_sub hl [0] rfl)
  · have h := ifn c1 h
    refine lv_aload_n hx hb dX2_faultOfWord_8 rfl (lv_at hl 0 rfl) ?_
    refine ka_get (v := .int R_token) (C := RX2) (T := TX2) (Nf := 8) (ref := "BeepNet$Reader") hx hb hts hiX2 hown hK hP 0 rfl rfl 4 (by decide) k_1 rfl rfl dX2_faultOfWord_9 ?_
    refine lv_iconst (v := 3) hx hb dX2_faultOfWord_12 (by decide) ?_
    refine lv_icmp_eq (tgt := 26) hx hb dX2_faultOfWord_13 (by decide) (fun c2 => ?_) (fun c2 => ?_)
    · have h := ift c2 h
      exact hC26  _ _ _ h hP hD hS (lv_sub hl [0] rfl)
    · have h := ifn c2 h
      refine lv_aload_n hx hb dX2_faultOfWord_16 rfl (lv_at hl 0 rfl) ?_
      refine ka_get (v := .int R_token) (C := RX2) (T := TX2) (Nf := 8) (ref := "BeepNet$Reader") hx hb hts hiX2 hown hK hP 0 rfl rfl 4 (by decide) k_1 rfl rfl dX2_faultOfWord_17 ?_
      refine lv_iconst (v := 4) hx hb dX2_faultOfWord_20 (by decide) ?_
      refine lv_icmp_eq (tgt := 26) hx hb dX2_faultOfWord_21 (by decide) (fun c3 => ?_) (fun c3 => ?_)
      · have h := ift c3 h
        exact hC26  _ _ _ h hP hD hS (lv_sub hl [0] rfl)
      · have h := ifn c3 h
        refine lv_iconst (v := 1) hx hb dX2_faultOfWord_24 (by decide) ?_
        obtain rfl := sj1 h
        exact hret _ _ _ _ _ rfl rfl hP hD hS dX2_faultOfWord_25
set_option maxHeartbeats 4000000 in
set_option maxRecDepth 100000 in
theorem c_X2_soundsAtWord (l : Launch) (dC : Nat → ClassId) (dI : Nat → Nat → Nat) (cI cJ cZ cA : ClassId) (aR aR_tape aR_rounds : Nat) (R_length : Int32) (R_roundsRead : Int32) (R_token : Int32) (R_start : Int32) (R_behind : Int32) (R_number : Int32) (R_rounds : Nat → Int32) (p0 : Int32) (rr : Int32) (h : fX2_soundsAtWord R_roundsRead R_rounds p0 = some rr) : Cti l yX2_soundsAtWord wsX2_soundsAtWord rmX2_soundsAtWord (dC, dI) (tyL cI cJ cZ cA) [(aR, .inr (2, [.ref aR_tape, .ref aR_rounds, .int R_length, .int R_roundsRead, .int R_token, .int R_start, .int R_behind, .int R_number])), (aR_rounds, .inl (cI, 20, .inl R_rounds))] [(aR, .inr (2, [.ref aR_tape, .ref aR_rounds, .int R_length, .int R_roundsRead, .int R_token, .int R_start, .int R_behind, .int R_number])), (aR_rounds, .inl (cI, 20, .inl R_rounds))] [.ref aR, .int p0] rr := by
  refine ct_int (ty := .int) (cc := cX2_soundsAtWord) (maxL := 2) (by decide) rfl (Nat.le_of_ble_eq_true rfl) ?_
  intro p e s m args below meth c A Q ls hx hb hml hown hts hA hK hP hD hS hl hret
  have hl : lv_has ls 2 [(0, .ref aR), (1, .int p0)] := hl
  have k_0 := hts (.fieldLink RX2 24 "BeepNet$Reader" "roundsRead" "I") (by decide +kernel)
  have k_1 := hts (.fieldLink RX2 15 "BeepNet$Reader" "rounds" "[I") (by decide +kernel)
  have hiX2 : ∀ w ∈ u_ws RX2 TX2 8, w ∈ wsX2_soundsAtWord := fun w hw => List.mem_cons_of_mem _ (List.mem_append_right _ hw)
  unfold fX2_soundsAtWord at h
  refine lv_iload_n hx hb dX2_soundsAtWord_0 rfl (lv_at hl 1 rfl) ?_
  refine lv_iconst (v := 3) hx hb dX2_soundsAtWord_1 (by decide) ?_
  refine lv_icmp_ne (tgt := 7) hx hb dX2_soundsAtWord_2 (by decide) (fun c1 => ?_) (fun c1 => ?_)
  · have h := ifn c1 h
    refine lv_iload_n hx hb dX2_soundsAtWord_7 rfl (lv_at hl 1 rfl) ?_
    refine lv_iconst (v := 4) hx hb dX2_soundsAtWord_8 (by decide) ?_
    refine lv_icmp_ne (tgt := 33) hx hb dX2_soundsAtWord_9 (by decide) (fun c2 => ?_) (fun c2 => ?_)
    · have h := ifn c2 h
      refine lv_iconst (v := 0) hx hb dX2_soundsAtWord_33 (by decide) ?_
      obtain rfl := sj1 h
      exact hret _ _ _ _ _ rfl rfl hP hD hS dX2_soundsAtWord_34
    · have h := ift c2 h
      refine lv_aload_n hx hb dX2_soundsAtWord_12 rfl (lv_at hl 0 rfl) ?_
      refine ka_get (v := .int R_roundsRead) (C := RX2) (T := TX2) (Nf := 8) (ref := "BeepNet$Reader") hx hb hts hiX2 hown hK hP 0 rfl rfl 3 (by decide) k_0 rfl rfl dX2_soundsAtWord_13 ?_
      refine lv_if_le (tgt := 33) hx hb dX2_soundsAtWord_16 (by decide) (fun c3 => ?_) (fun c3 => ?_)
      · have h := ift c3 h
        refine lv_iconst (v := 0) hx hb dX2_soundsAtWord_33 (by decide) ?_
        obtain rfl := sj1 h
        exact hret _ _ _ _ _ rfl rfl hP hD hS dX2_soundsAtWord_34
      · have h := ifn c3 h
        refine lv_aload_n hx hb dX2_soundsAtWord_19 rfl (lv_at hl 0 rfl) ?_
        refine ka_get (v := .ref aR_rounds) (C := RX2) (T := TX2) (Nf := 8) (ref := "BeepNet$Reader") hx hb hts hiX2 hown hK hP 0 rfl rfl 1 (by decide) k_1 rfl rfl dX2_soundsAtWord_20 ?_
        refine lv_aload_n hx hb dX2_soundsAtWord_23 rfl (lv_at hl 0 rfl) ?_
        refine ka_get (v := .int R_roundsRead) (C := RX2) (T := TX2) (Nf := 8) (ref := "BeepNet$Reader") hx hb hts hiX2 hown hK hP 0 rfl rfl 3 (by decide) k_0 rfl rfl dX2_soundsAtWord_24 ?_
        refine lv_iconst (v := 1) hx hb dX2_soundsAtWord_27 (by decide) ?_
        refine lv_isub hx hb dX2_soundsAtWord_28 ?_
        obtain ⟨v4, ev4, hn5, h⟩ := ldx_s h
        refine ka_ild hx hb hK hP 1 0 ev4 rfl rfl hn5 dX2_soundsAtWord_29 ?_
        refine lv_goto (tgt := 34) hx hb dX2_soundsAtWord_30 (by decide) ?_
        obtain rfl := sj1 h
        exact hret _ _ _ _ _ rfl rfl hP hD hS dX2_soundsAtWord_34
  · have h := ift c1 h
    refine lv_iconst (v := -1) hx hb dX2_soundsAtWord_5 (by decide) ?_
    obtain rfl := sj1 h
    exact hret _ _ _ _ _ rfl rfl hP hD hS dX2_soundsAtWord_6
set_option maxHeartbeats 4000000 in
set_option maxRecDepth 100000 in
theorem c_X2_readNumbers (l : Launch) (dC : Nat → ClassId) (dI : Nat → Nat → Nat) (cI cJ cZ cA : ClassId) (sk sv : Nat → Nat) (aR aR_tape aR_rounds : Nat) (R_length : Int32) (R_roundsRead : Int32) (R_token : Int32) (R_start : Int32) (R_behind : Int32) (R_number : Int32) (R_tape : Nat → Int32) (R_rounds : Nat → Int32) (p0 : Int32) (rr : Int32) (R_token_z : Int32) (R_start_z : Int32) (R_behind_z : Int32) (R_number_z : Int32) (R_rounds_z : Nat → Int32) (h : fX2_readNumbers R_length R_roundsRead R_token R_start R_behind R_number R_tape R_rounds p0 = some (rr, R_token_z, R_start_z, R_behind_z, R_number_z, R_rounds_z)) : CtiX l yX2_readNumbers wsX2_readNumbers rmX2_readNumbers (dC, dI) (tyL cI cJ cZ cA) sk sv [(aR, .inr (2, [.ref aR_tape, .ref aR_rounds, .int R_length, .int R_roundsRead, .int R_token, .int R_start, .int R_behind, .int R_number])), (aR_tape, .inl (cI, 300, .inl R_tape)), (aR_rounds, .inl (cI, 20, .inl R_rounds))] [(aR, .inr (2, [.ref aR_tape, .ref aR_rounds, .int R_length, .int R_roundsRead, .int R_token_z, .int R_start_z, .int R_behind_z, .int R_number_z])), (aR_tape, .inl (cI, 300, .inl R_tape)), (aR_rounds, .inl (cI, 20, .inl R_rounds_z))] [.ref aR, .int p0] rr := by
  refine ct_intX (ty := .int) (cc := cX2_readNumbers) (maxL := 3) (by decide) rfl (Nat.le_of_ble_eq_true rfl) ?_
  intro p e s m args below meth c A Q ls hx hb hml hown hts hA hK hP hD hS hl hret hX
  have hl : lv_has ls 3 [(0, .ref aR), (1, .int p0)] := hl
  have k_0 := hts (.fieldLink RX2 42 "BeepNet$Reader" "token" "I") (by decide +kernel)
  have k_1 := hts (.fieldLink RX2 59 "BeepNet$Reader" "number" "I") (by decide +kernel)
  have k_2 := hts (.fieldLink RX2 15 "BeepNet$Reader" "rounds" "[I") (by decide +kernel)
  have k_3 := hts (.fieldLink RX2 24 "BeepNet$Reader" "roundsRead" "I") (by decide +kernel)
  have hiX2 : ∀ w ∈ u_ws RX2 TX2 8, w ∈ wsX2_readNumbers := fun w hw => List.mem_cons_of_mem _ (List.mem_append_right _ hw)
  have hC2 : ∀ (n : Nat) (R_token : Int32) (R_start : Int32) (R_behind : Int32) (R_number : Int32) (R_rounds : Nat → Int32) (x1 : Int32) (x2 : Int32) (H : Heap) (locs : List Loc) (ls : Array Slot), fX2_readNumbers_c2 R_length R_roundsRead R_tape n R_token R_start R_behind R_number R_rounds x1 x2 = some (rr, R_token_z, R_start_z, R_behind_z, R_number_z, R_rounds_z) → va_P (dC, dI) vwCl [(aR, .inr (2, [.ref aR_tape, .ref aR_rounds, .int R_length, .int R_roundsRead, .int R_token, .int R_start, .int R_behind, .int R_number])), (aR_tape, .inl (cI, 300, .inl R_tape)), (aR_rounds, .inl (cI, 20, .inl R_rounds))] H → va_D A [(aR, .inr (2, [.ref aR_tape, .ref aR_rounds, .int R_length, .int R_roundsRead, .int R_token, .int R_start, .int R_behind, .int R_number])), (aR_tape, .inl (cI, 300, .inl R_tape)), (aR_rounds, .inl (cI, 20, .inl R_rounds))] → va_S A s.heap H locs → lv_has ls 3 [(0, .ref aR), (1, .int x1), (2, .int x2)] → W p l e rmX2_readNumbers s m args below meth c H locs 0 0 Q (F0 m 2 ls []) := by
    intro n
    induction n with
    | zero => intro R_token R_start R_behind R_number R_rounds x1 x2 H locs ls h; rw [fX2_readNumbers_c2] at h; cases h
    | succ n2 ih2 =>
      intro R_token R_start R_behind R_number R_rounds x1 x2 H locs ls h hP hD hS hl
      rw [fX2_readNumbers_c2] at h
      refine lv_iload_n hx hb dX2_readNumbers_2 rfl (lv_at hl 2 rfl) ?_
      refine lv_bipush (v := 8) hx hb dX2_readNumbers_3 (by decide) ?_
      refine lv_icmp_gt (tgt := 74) hx hb dX2_readNumbers_5 (by decide) (fun c301 => ?_) (fun c301 => ?_)
      · have h := ift c301 h
        refine lv_iconst (v := 0) hx hb dX2_readNumbers_74 (by decide) ?_
        obtain ⟨rfl, rfl, rfl, rfl, rfl, rfl⟩ := sj6 h
        exact hret _ _ _ _ _ rfl rfl hP hD hS dX2_readNumbers_75
      · have h := ifn c301 h
        refine lv_aload_n hx hb dX2_readNumbers_8 rfl (lv_at hl 0 rfl) ?_
        refine ka_get (v := .int R_token) (C := RX2) (T := TX2) (Nf := 8) (ref := "BeepNet$Reader") hx hb hts hiX2 hown hK hP 0 rfl rfl 4 (by decide) k_0 rfl rfl dX2_readNumbers_9 ?_
        refine lv_iconst (v := 5) hx hb dX2_readNumbers_12 (by decide) ?_
        refine lv_icmp_ne (tgt := 74) hx hb dX2_readNumbers_13 (by decide) (fun c302 => ?_) (fun c302 => ?_)
        · have h := ifn c302 h
          refine lv_iconst (v := 0) hx hb dX2_readNumbers_74 (by decide) ?_
          obtain ⟨rfl, rfl, rfl, rfl, rfl, rfl⟩ := sj6 h
          exact hret _ _ _ _ _ rfl rfl hP hD hS dX2_readNumbers_75
        · have h := ift c302 h
          refine lv_aload_n hx hb dX2_readNumbers_16 rfl (lv_at hl 0 rfl) ?_
          refine ka_get (v := .int R_number) (C := RX2) (T := TX2) (Nf := 8) (ref := "BeepNet$Reader") hx hb hts hiX2 hown hK hP 0 rfl rfl 7 (by decide) k_1 rfl rfl dX2_readNumbers_17 ?_
          refine lv_iload_n hx hb dX2_readNumbers_20 rfl (lv_at hl 1 rfl) ?_
          refine lv_icmp_ge (tgt := 44) hx hb dX2_readNumbers_21 (by decide) (fun c303 => ?_) (fun c303 => ?_)
          · have h := ift c303 h
            refine lv_iconst (v := 2) hx hb dX2_readNumbers_44 (by decide) ?_
            obtain ⟨rfl, rfl, rfl, rfl, rfl, rfl⟩ := sj6 h
            exact hret _ _ _ _ _ rfl rfl hP hD hS dX2_readNumbers_45
          · have h := ifn c303 h
            refine lv_aload_n hx hb dX2_readNumbers_24 rfl (lv_at hl 0 rfl) ?_
            refine ka_get (v := .ref aR_rounds) (C := RX2) (T := TX2) (Nf := 8) (ref := "BeepNet$Reader") hx hb hts hiX2 hown hK hP 0 rfl rfl 1 (by decide) k_2 rfl rfl dX2_readNumbers_25 ?_
            refine lv_aload_n hx hb dX2_readNumbers_28 rfl (lv_at hl 0 rfl) ?_
            refine ka_get (v := .int R_roundsRead) (C := RX2) (T := TX2) (Nf := 8) (ref := "BeepNet$Reader") hx hb hts hiX2 hown hK hP 0 rfl rfl 3 (by decide) k_3 rfl rfl dX2_readNumbers_29 ?_
            obtain ⟨v304, ev304, hn305, h⟩ := ldx_s h
            refine ka_ild hx hb hK hP 2 0 ev304 rfl rfl hn305 dX2_readNumbers_32 ?_
            refine lv_aload_n hx hb dX2_readNumbers_33 rfl (lv_at hl 0 rfl) ?_
            refine ka_get (v := .int R_number) (C := RX2) (T := TX2) (Nf := 8) (ref := "BeepNet$Reader") hx hb hts hiX2 hown hK hP 0 rfl rfl 7 (by decide) k_1 rfl rfl dX2_readNumbers_34 ?_
            refine lv_ishr hx hb dX2_readNumbers_37 ?_
            refine lv_iconst (v := 1) hx hb dX2_readNumbers_38 (by decide) ?_
            refine lv_iand hx hb dX2_readNumbers_39 ?_
            refine lv_iconst (v := 1) hx hb dX2_readNumbers_40 (by decide) ?_
            refine lv_icmp_ne (tgt := 46) hx hb dX2_readNumbers_41 (by decide) (fun c306 => ?_) (fun c306 => ?_)
            · have h := ifn c306 h
              refine lv_aload_n hx hb dX2_readNumbers_46 rfl (lv_at hl 0 rfl) ?_
              refine ka_get (v := .ref aR_rounds) (C := RX2) (T := TX2) (Nf := 8) (ref := "BeepNet$Reader") hx hb hts hiX2 hown hK hP 0 rfl rfl 1 (by decide) k_2 rfl rfl dX2_readNumbers_47 ?_
              refine lv_aload_n hx hb dX2_readNumbers_50 rfl (lv_at hl 0 rfl) ?_
              refine ka_get (v := .int R_roundsRead) (C := RX2) (T := TX2) (Nf := 8) (ref := "BeepNet$Reader") hx hb hts hiX2 hown hK hP 0 rfl rfl 3 (by decide) k_3 rfl rfl dX2_readNumbers_51 ?_
              refine lv_dup2_11 hx hb dX2_readNumbers_54 rfl rfl ?_
              obtain ⟨v307, ev307, hn308, h⟩ := ldx_s h
              refine ka_ild hx hb hK hP 2 0 ev307 rfl rfl hn308 dX2_readNumbers_55 ?_
              refine lv_iconst (v := 1) hx hb dX2_readNumbers_56 (by decide) ?_
              refine lv_aload_n hx hb dX2_readNumbers_57 rfl (lv_at hl 0 rfl) ?_
              refine ka_get (v := .int R_number) (C := RX2) (T := TX2) (Nf := 8) (ref := "BeepNet$Reader") hx hb hts hiX2 hown hK hP 0 rfl rfl 7 (by decide) k_1 rfl rfl dX2_readNumbers_58 ?_
              refine lv_ishl hx hb dX2_readNumbers_61 ?_
              refine lv_ior hx hb dX2_readNumbers_62 ?_
              obtain ⟨g309, eg309, hn310, h⟩ := sti_s h
              refine ka_ist (w1 := [(aR, .inr (2, [.ref aR_tape, .ref aR_rounds, .int R_length, .int R_roundsRead, .int R_token, .int R_start, .int R_behind, .int R_number])), (aR_tape, .inl (cI, 300, .inl R_tape)), (aR_rounds, .inl (cI, 20, .inl g309))]) hx hb hK hP hD hS 2 0 eg309 rfl rfl hn310 dX2_readNumbers_63 rfl (fun H locs hP hD hS => ?_)
              refine lv_aload_n hx hb dX2_readNumbers_64 rfl (lv_at hl 0 rfl) ?_
              obtain ⟨R_token_311, R_start_312, R_behind_313, R_number_314, e315, h⟩ := bd4_s h
              refine kc_vvX hX (rest := []) (wr := [(aR_rounds, .inl (cI, 20, .inl g309))]) (wF := [(aR, .inr (2, [.ref aR_tape, .ref aR_rounds, .int R_length, .int R_roundsRead, .int R_token_311, .int R_start_312, .int R_behind_313, .int R_number_314])), (aR_tape, .inl (cI, 300, .inl R_tape)), (aR_rounds, .inl (cI, 20, .inl g309))]) ⟨hx, hb, hml, hown, hts⟩ (c_X2_advance l dC dI cI cJ cZ cA sk sv aR aR_tape aR_rounds R_length R_roundsRead R_token R_start R_behind R_number R_tape R_token_311 R_start_312 R_behind_313 R_number_314 e315) (cwV 0 hts gX2_readNumbers_X2_advance rfl rfl rfl (by decide +kernel) ⟨Nat.le_of_ble_eq_true rfl, Nat.le_of_ble_eq_true rfl⟩) hK hP hD hS hA [0, 1] [2] [1, 2, 0] 0 rfl rfl rfl rfl (by decide) rfl rfl rfl rfl rfl rfl hl.1 rfl (Nat.le_of_ble_eq_true rfl) dX2_readNumbers_65 ⟨Nat.zero_le _, Nat.zero_le _⟩ (fun H locs hP hD hS => ?_)
              refine lv_iinc (v := x2 + 1) (lv' := [(2, .int (x2 + 1)), (0, .ref aR), (1, .int x1)]) hx hb dX2_readNumbers_68 hl (k := 2) rfl rfl (by decide) rfl (fun ls hl => ?_)
              refine lv_goto (tgt := 2) hx hb dX2_readNumbers_71 (by decide) ?_
              exact ih2 R_token_311 R_start_312 R_behind_313 R_number_314 g309 x1 (x2 + 1) _ _ _ h hP hD hS (lv_sub hl [1, 2, 0] rfl)
            · have h := ift c306 h
              refine lv_iconst (v := 2) hx hb dX2_readNumbers_44 (by decide) ?_
              obtain ⟨rfl, rfl, rfl, rfl, rfl, rfl⟩ := sj6 h
              exact hret _ _ _ _ _ rfl rfl hP hD hS dX2_readNumbers_45
  unfold fX2_readNumbers at h
  refine lv_iconst (v := 0) hx hb dX2_readNumbers_0 (by decide) ?_
  refine lv_istore_n (lv' := [(2, .int 0), (0, .ref aR), (1, .int p0)]) hx hb dX2_readNumbers_1 rfl hl (by decide) rfl (fun ls hl => ?_)
  exact hC2 FU R_token R_start R_behind R_number R_rounds p0 0 _ _ _ h hP hD hS (lv_sub hl [1, 2, 0] rfl)
set_option maxHeartbeats 4000000 in
set_option maxRecDepth 100000 in
theorem c_X2_readRound (l : Launch) (dC : Nat → ClassId) (dI : Nat → Nat → Nat) (cI cJ cZ cA : ClassId) (sk sv : Nat → Nat) (aR aR_tape aR_rounds : Nat) (R_length : Int32) (R_roundsRead : Int32) (R_token : Int32) (R_start : Int32) (R_behind : Int32) (R_number : Int32) (R_tape : Nat → Int32) (R_rounds : Nat → Int32) (p0 : Int32) (rr : Int32) (R_roundsRead_z : Int32) (R_token_z : Int32) (R_start_z : Int32) (R_behind_z : Int32) (R_number_z : Int32) (R_rounds_z : Nat → Int32) (h : fX2_readRound R_length R_roundsRead R_token R_start R_behind R_number R_tape R_rounds p0 = some (rr, R_roundsRead_z, R_token_z, R_start_z, R_behind_z, R_number_z, R_rounds_z)) : CtiX l yX2_readRound wsX2_readRound rmX2_readRound (dC, dI) (tyL cI cJ cZ cA) sk sv [(aR, .inr (2, [.ref aR_tape, .ref aR_rounds, .int R_length, .int R_roundsRead, .int R_token, .int R_start, .int R_behind, .int R_number])), (aR_tape, .inl (cI, 300, .inl R_tape)), (aR_rounds, .inl (cI, 20, .inl R_rounds))] [(aR, .inr (2, [.ref aR_tape, .ref aR_rounds, .int R_length, .int R_roundsRead_z, .int R_token_z, .int R_start_z, .int R_behind_z, .int R_number_z])), (aR_tape, .inl (cI, 300, .inl R_tape)), (aR_rounds, .inl (cI, 20, .inl R_rounds_z))] [.ref aR, .int p0] rr := by
  refine ct_intX (ty := .int) (cc := cX2_readRound) (maxL := 4) (by decide) rfl (Nat.le_of_ble_eq_true rfl) ?_
  intro p e s m args below meth c A Q ls hx hb hml hown hts hA hK hP hD hS hl hret hX
  have hl : lv_has ls 4 [(0, .ref aR), (1, .int p0)] := hl
  have k_0 := hts (.fieldLink RX2 24 "BeepNet$Reader" "roundsRead" "I") (by decide +kernel)
  have k_1 := hts (.fieldLink RX2 42 "BeepNet$Reader" "token" "I") (by decide +kernel)
  have k_2 := hts (.fieldLink RX2 15 "BeepNet$Reader" "rounds" "[I") (by decide +kernel)
  have hiX2 : ∀ w ∈ u_ws RX2 TX2 8, w ∈ wsX2_readRound := fun w hw => List.mem_cons_of_mem _ (List.mem_append_right _ hw)
  have hC60 : ∀ (R_roundsRead : Int32) (R_token : Int32) (R_start : Int32) (R_behind : Int32) (R_number : Int32) (R_rounds : Nat → Int32) (x3 : Int32) (H : Heap) (locs : List Loc) (ls : Array Slot), fX2_readRound_c60 R_length R_tape R_roundsRead R_token R_start R_behind R_number R_rounds x3 = some (rr, R_roundsRead_z, R_token_z, R_start_z, R_behind_z, R_number_z, R_rounds_z) → va_P (dC, dI) vwCl [(aR, .inr (2, [.ref aR_tape, .ref aR_rounds, .int R_length, .int R_roundsRead, .int R_token, .int R_start, .int R_behind, .int R_number])), (aR_tape, .inl (cI, 300, .inl R_tape)), (aR_rounds, .inl (cI, 20, .inl R_rounds))] H → va_D A [(aR, .inr (2, [.ref aR_tape, .ref aR_rounds, .int R_length, .int R_roundsRead, .int R_token, .int R_start, .int R_behind, .int R_number])), (aR_tape, .inl (cI, 300, .inl R_tape)), (aR_rounds, .inl (cI, 20, .inl R_rounds))] → va_S A s.heap H locs → lv_has ls 4 [(0, .ref aR), (3, .int x3)] → W p l e rmX2_readRound s m args below meth c H locs 0 0 Q (F0 m 60 ls []) := by
    intro R_roundsRead R_token R_start R_behind R_number R_rounds x3 H locs ls h hP hD hS hl
    unfold fX2_readRound_c60 at h
    refine lv_iload_n hx hb dX2_readRound_60 rfl (lv_at hl 1 rfl) ?_
    refine lv_if_ne (tgt := 78) hx hb dX2_readRound_61 (by decide) (fun c6101 => ?_) (fun c6101 => ?_)
    · have h := ifn c6101 h
      refine lv_iload_n hx hb dX2_readRound_78 rfl (lv_at hl 1 rfl) ?_
      obtain ⟨rfl, rfl, rfl, rfl, rfl, rfl, rfl⟩ := sj7 h
      exact hret _ _ _ _ _ rfl rfl hP hD hS dX2_readRound_79
    · have h := ift c6101 h
      refine lv_aload_n hx hb dX2_readRound_64 rfl (lv_at hl 0 rfl) ?_
      refine lv_dup hx hb dX2_readRound_65 rfl ?_
      refine ka_get (v := .int R_roundsRead) (C := RX2) (T := TX2) (Nf := 8) (ref := "BeepNet$Reader") hx hb hts hiX2 hown hK hP 0 rfl rfl 3 (by decide) k_0 rfl rfl dX2_readRound_66 ?_
      refine lv_iconst (v := 1) hx hb dX2_readRound_69 (by decide) ?_
      refine lv_iadd hx hb dX2_readRound_70 ?_
      obtain ⟨v6102, ev6102, h⟩ := bnd_s h
      refine kn_i ev6102 ?_
      refine ka_put (w1 := [(aR, .inr (2, [.ref aR_tape, .ref aR_rounds, .int R_length, .int v6102, .int R_token, .int R_start, .int R_behind, .int R_number])), (aR_tape, .inl (cI, 300, .inl R_tape)), (aR_rounds, .inl (cI, 20, .inl R_rounds))]) (C := RX2) (T := TX2) (Nf := 8) (ref := "BeepNet$Reader") hx hb hts hiX2 tyX2 tyX2_ok nmX2 hown hK hP hD hS 0 rfl rfl 3 (by decide) k_0 rfl rfl rfl (Nat.le_of_ble_eq_true rfl) dX2_readRound_71 rfl (fun H locs hP hD hS => ?_)
      refine lv_aload_n hx hb dX2_readRound_74 rfl (lv_at hl 0 rfl) ?_
      obtain ⟨R_token_6103, R_start_6104, R_behind_6105, R_number_6106, e6107, h⟩ := bd4_s h
      refine kc_vvX hX (rest := []) (wr := [(aR_rounds, .inl (cI, 20, .inl R_rounds))]) (wF := [(aR, .inr (2, [.ref aR_tape, .ref aR_rounds, .int R_length, .int v6102, .int R_token_6103, .int R_start_6104, .int R_behind_6105, .int R_number_6106])), (aR_tape, .inl (cI, 300, .inl R_tape)), (aR_rounds, .inl (cI, 20, .inl R_rounds))]) ⟨hx, hb, hml, hown, hts⟩ (c_X2_advance l dC dI cI cJ cZ cA sk sv aR aR_tape aR_rounds R_length v6102 R_token R_start R_behind R_number R_tape R_token_6103 R_start_6104 R_behind_6105 R_number_6106 e6107) (cwV 0 hts gX2_readRound_X2_advance rfl rfl rfl (by decide +kernel) ⟨Nat.le_of_ble_eq_true rfl, Nat.le_of_ble_eq_true rfl⟩) hK hP hD hS hA [0, 1] [2] [1, 2, 0] 0 rfl rfl rfl rfl (by decide) rfl rfl rfl rfl rfl rfl hl.1 rfl (Nat.le_of_ble_eq_true rfl) dX2_readRound_75 ⟨Nat.zero_le _, Nat.zero_le _⟩ (fun H locs hP hD hS => ?_)
      refine lv_iload_n hx hb dX2_readRound_78 rfl (lv_at hl 1 rfl) ?_
      obtain ⟨rfl, rfl, rfl, rfl, rfl, rfl, rfl⟩ := sj7 h
      exact hret _ _ _ _ _ rfl rfl hP hD hS dX2_readRound_79
  have hC45 : ∀ (R_roundsRead : Int32) (R_token : Int32) (R_start : Int32) (R_behind : Int32) (R_number : Int32) (R_rounds : Nat → Int32) (x3 : Int32) (H : Heap) (locs : List Loc) (ls : Array Slot), fX2_readRound_c45 R_length R_tape R_roundsRead R_token R_start R_behind R_number R_rounds x3 = some (rr, R_roundsRead_z, R_token_z, R_start_z, R_behind_z, R_number_z, R_rounds_z) → va_P (dC, dI) vwCl [(aR, .inr (2, [.ref aR_tape, .ref aR_rounds, .int R_length, .int R_roundsRead, .int R_token, .int R_start, .int R_behind, .int R_number])), (aR_tape, .inl (cI, 300, .inl R_tape)), (aR_rounds, .inl (cI, 20, .inl R_rounds))] H → va_D A [(aR, .inr (2, [.ref aR_tape, .ref aR_rounds, .int R_length, .int R_roundsRead, .int R_token, .int R_start, .int R_behind, .int R_number])), (aR_tape, .inl (cI, 300, .inl R_tape)), (aR_rounds, .inl (cI, 20, .inl R_rounds))] → va_S A s.heap H locs → lv_has ls 4 [(0, .ref aR), (3, .int x3)] → W p l e rmX2_readRound s m args below meth c H locs 0 0 Q (F0 m 45 ls []) := by
    intro R_roundsRead R_token R_start R_behind R_number R_rounds x3 H locs ls h hP hD hS hl
    unfold fX2_readRound_c45 at h
    refine lv_iload_n hx hb dX2_readRound_45 rfl (lv_at hl 1 rfl) ?_
    refine lv_if_ne (tgt := 60) hx hb dX2_readRound_46 (by decide) (fun c4601 => ?_) (fun c4601 => ?_)
    · have h := ifn c4601 h
      exact hC60 R_roundsRead R_token R_start R_behind R_number R_rounds x3 _ _ _ h hP hD hS (lv_sub hl [0, 1] rfl)
    · have h := ift c4601 h
      refine lv_aload_n hx hb dX2_readRound_49 rfl (lv_at hl 0 rfl) ?_
      refine ka_get (v := .int R_token) (C := RX2) (T := TX2) (Nf := 8) (ref := "BeepNet$Reader") hx hb hts hiX2 hown hK hP 0 rfl rfl 4 (by decide) k_1 rfl rfl dX2_readRound_50 ?_
      refine lv_bipush (v := 6) hx hb dX2_readRound_53 (by decide) ?_
      refine lv_icmp_eq (tgt := 60) hx hb dX2_readRound_55 (by decide) (fun c4602 => ?_) (fun c4602 => ?_)
      · have h := ift c4602 h
        exact hC60 R_roundsRead R_token R_start R_behind R_number R_rounds x3 _ _ _ h hP hD hS (lv_sub hl [0, 1] rfl)
      · have h := ifn c4602 h
        refine lv_iconst (v := 1) hx hb dX2_readRound_58 (by decide) ?_
        refine lv_istore_n (lv' := [(3, .int 1), (0, .ref aR)]) hx hb dX2_readRound_59 rfl hl (by decide) rfl (fun ls hl => ?_)
        exact hC60 R_roundsRead R_token R_start R_behind R_number R_rounds 1 _ _ _ h hP hD hS (lv_sub hl [1, 0] rfl)
  unfold fX2_readRound at h
  refine lv_aload_n hx hb dX2_readRound_0 rfl (lv_at hl 0 rfl) ?_
  refine ka_get (v := .int R_token) (C := RX2) (T := TX2) (Nf := 8) (ref := "BeepNet$Reader") hx hb hts hiX2 hown hK hP 0 rfl rfl 4 (by decide) k_1 rfl rfl dX2_readRound_1 ?_
  refine lv_istore_n (lv' := [(2, .int R_token), (0, .ref aR), (1, .int p0)]) hx hb dX2_readRound_4 rfl hl (by decide) rfl (fun ls hl => ?_)
  refine lv_aload_n hx hb dX2_readRound_5 rfl (lv_at hl 1 rfl) ?_
  obtain ⟨r1, e2, h⟩ := bd1_s h
  refine kc_vi (rest := []) (wr := [(aR_tape, .inl (cI, 300, .inl R_tape)), (aR_rounds, .inl (cI, 20, .inl R_rounds))]) (wF := [(aR, .inr (2, [.ref aR_tape, .ref aR_rounds, .int R_length, .int R_roundsRead, .int R_token, .int R_start, .int R_behind, .int R_number])), (aR_tape, .inl (cI, 300, .inl R_tape)), (aR_rounds, .inl (cI, 20, .inl R_rounds))]) ⟨hx, hb, hml, hown, hts⟩ (c_X2_faultOfWord l dC dI cI cJ cZ cA aR aR_tape aR_rounds R_length R_roundsRead R_token R_start R_behind R_number r1 e2) (cwV 0 hts gX2_readRound_X2_faultOfWord rfl rfl rfl (by decide +kernel) ⟨Nat.le_of_ble_eq_true rfl, Nat.le_of_ble_eq_true rfl⟩) hK hP hD hS hA [0] [1, 2] [2, 0, 1] 0 rfl rfl rfl rfl (by decide) rfl rfl rfl rfl rfl rfl hl.1 rfl (Nat.le_of_ble_eq_true rfl) dX2_readRound_6 ⟨Nat.zero_le _, Nat.zero_le _⟩ (fun H locs hP hD hS => ?_)
  refine lv_istore_n (lv' := [(3, .int r1), (2, .int R_token), (0, .ref aR), (1, .int p0)]) hx hb dX2_readRound_9 rfl hl (by decide) rfl (fun ls hl => ?_)
  refine lv_iload_n hx hb dX2_readRound_10 rfl (lv_at hl 0 rfl) ?_
  refine lv_if_eq (tgt := 16) hx hb dX2_readRound_11 (by decide) (fun c3 => ?_) (fun c3 => ?_)
  · have h := ift c3 h
    refine lv_aload_n hx hb dX2_readRound_16 rfl (lv_at hl 2 rfl) ?_
    refine ka_get (v := .ref aR_rounds) (C := RX2) (T := TX2) (Nf := 8) (ref := "BeepNet$Reader") hx hb hts hiX2 hown hK hP 0 rfl rfl 1 (by decide) k_2 rfl rfl dX2_readRound_17 ?_
    refine lv_aload_n hx hb dX2_readRound_20 rfl (lv_at hl 2 rfl) ?_
    refine ka_get (v := .int R_roundsRead) (C := RX2) (T := TX2) (Nf := 8) (ref := "BeepNet$Reader") hx hb hts hiX2 hown hK hP 0 rfl rfl 3 (by decide) k_0 rfl rfl dX2_readRound_21 ?_
    refine lv_aload_n hx hb dX2_readRound_24 rfl (lv_at hl 2 rfl) ?_
    refine lv_iload_n hx hb dX2_readRound_25 rfl (lv_at hl 1 rfl) ?_
    obtain ⟨r4, e5, h⟩ := bd1_s h
    refine kc_vi (rest := [.int R_roundsRead, .ref aR_rounds]) (wr := [(aR_tape, .inl (cI, 300, .inl R_tape))]) (wF := [(aR, .inr (2, [.ref aR_tape, .ref aR_rounds, .int R_length, .int R_roundsRead, .int R_token, .int R_start, .int R_behind, .int R_number])), (aR_tape, .inl (cI, 300, .inl R_tape)), (aR_rounds, .inl (cI, 20, .inl R_rounds))]) ⟨hx, hb, hml, hown, hts⟩ (c_X2_soundsAtWord l dC dI cI cJ cZ cA aR aR_tape aR_rounds R_length R_roundsRead R_token R_start R_behind R_number R_rounds R_token r4 e5) (cwV 1 hts gX2_readRound_X2_soundsAtWord rfl rfl rfl (by decide +kernel) ⟨Nat.le_of_ble_eq_true rfl, Nat.le_of_ble_eq_true rfl⟩) hK hP hD hS hA [0, 2] [1] [1, 0, 2] 0 rfl rfl rfl rfl (by decide) rfl rfl rfl rfl rfl rfl hl.1 rfl (Nat.le_of_ble_eq_true rfl) dX2_readRound_26 ⟨Nat.zero_le _, Nat.zero_le _⟩ (fun H locs hP hD hS => ?_)
    obtain ⟨g6, eg6, hn7, h⟩ := sti_s h
    refine ka_ist (w1 := [(aR, .inr (2, [.ref aR_tape, .ref aR_rounds, .int R_length, .int R_roundsRead, .int R_token, .int R_start, .int R_behind, .int R_number])), (aR_tape, .inl (cI, 300, .inl R_tape)), (aR_rounds, .inl (cI, 20, .inl g6))]) hx hb hK hP hD hS 2 0 eg6 rfl rfl hn7 dX2_readRound_29 rfl (fun H locs hP hD hS => ?_)
    refine lv_aload_n hx hb dX2_readRound_30 rfl (lv_at hl 2 rfl) ?_
    obtain ⟨R_token_8, R_start_9, R_behind_10, R_number_11, e12, h⟩ := bd4_s h
    refine kc_vvX hX (rest := []) (wr := [(aR_rounds, .inl (cI, 20, .inl g6))]) (wF := [(aR, .inr (2, [.ref aR_tape, .ref aR_rounds, .int R_length, .int R_roundsRead, .int R_token_8, .int R_start_9, .int R_behind_10, .int R_number_11])), (aR_tape, .inl (cI, 300, .inl R_tape)), (aR_rounds, .inl (cI, 20, .inl g6))]) ⟨hx, hb, hml, hown, hts⟩ (c_X2_advance l dC dI cI cJ cZ cA sk sv aR aR_tape aR_rounds R_length R_roundsRead R_token R_start R_behind R_number R_tape R_token_8 R_start_9 R_behind_10 R_number_11 e12) (cwV 0 hts gX2_readRound_X2_advance rfl rfl rfl (by decide +kernel) ⟨Nat.le_of_ble_eq_true rfl, Nat.le_of_ble_eq_true rfl⟩) hK hP hD hS hA [0, 1] [2] [1, 2, 0] 0 rfl rfl rfl rfl (by decide) rfl rfl rfl rfl rfl rfl hl.1 rfl (Nat.le_of_ble_eq_true rfl) dX2_readRound_31 ⟨Nat.zero_le _, Nat.zero_le _⟩ (fun H locs hP hD hS => ?_)
    refine lv_iload_n hx hb dX2_readRound_34 rfl (lv_at hl 1 rfl) ?_
    refine lv_iconst (v := 2) hx hb dX2_readRound_35 (by decide) ?_
    refine lv_icmp_ne (tgt := 45) hx hb dX2_readRound_36 (by decide) (fun c13 => ?_) (fun c13 => ?_)
    · have h := ifn c13 h
      exact hC45 R_roundsRead R_token_8 R_start_9 R_behind_10 R_number_11 g6 r1 _ _ _ h hP hD hS (lv_sub hl [2, 0] rfl)
    · have h := ift c13 h
      refine lv_aload_n hx hb dX2_readRound_39 rfl (lv_at hl 2 rfl) ?_
      refine lv_iload_n hx hb dX2_readRound_40 rfl (lv_at hl 3 rfl) ?_
      obtain ⟨r14, R_token_15, R_start_16, R_behind_17, R_number_18, R_rounds_19, e20, h⟩ := bd6_s h
      refine kc_viX hX (rest := []) (wr := []) (wF := [(aR, .inr (2, [.ref aR_tape, .ref aR_rounds, .int R_length, .int R_roundsRead, .int R_token_15, .int R_start_16, .int R_behind_17, .int R_number_18])), (aR_tape, .inl (cI, 300, .inl R_tape)), (aR_rounds, .inl (cI, 20, .inl R_rounds_19))]) ⟨hx, hb, hml, hown, hts⟩ (c_X2_readNumbers l dC dI cI cJ cZ cA sk sv aR aR_tape aR_rounds R_length R_roundsRead R_token_8 R_start_9 R_behind_10 R_number_11 R_tape g6 p0 r14 R_token_15 R_start_16 R_behind_17 R_number_18 R_rounds_19 e20) (cwV 1 hts gX2_readRound_X2_readNumbers rfl rfl rfl (by decide +kernel) ⟨Nat.le_of_ble_eq_true rfl, Nat.le_of_ble_eq_true rfl⟩) hK hP hD hS hA [0, 1, 2] [] [0, 1, 2] 0 rfl rfl rfl rfl (by decide) rfl rfl rfl rfl rfl rfl hl.1 rfl (Nat.le_of_ble_eq_true rfl) dX2_readRound_41 ⟨Nat.zero_le _, Nat.zero_le _⟩ (fun H locs hP hD hS => ?_)
      refine lv_istore_n (lv' := [(3, .int r14), (2, .int R_token), (0, .ref aR), (1, .int p0)]) hx hb dX2_readRound_44 rfl hl (by decide) rfl (fun ls hl => ?_)
      exact hC45 R_roundsRead R_token_15 R_start_16 R_behind_17 R_number_18 R_rounds_19 r14 _ _ _ h hP hD hS (lv_sub hl [2, 0] rfl)
  · have h := ifn c3 h
    refine lv_iload_n hx hb dX2_readRound_14 rfl (lv_at hl 0 rfl) ?_
    obtain ⟨rfl, rfl, rfl, rfl, rfl, rfl, rfl⟩ := sj7 h
    exact hret _ _ _ _ _ rfl rfl hP hD hS dX2_readRound_15
set_option maxHeartbeats 4000000 in
set_option maxRecDepth 100000 in
theorem c_X2_read (l : Launch) (dC : Nat → ClassId) (dI : Nat → Nat → Nat) (cI cJ cZ cA : ClassId) (sk sv : Nat → Nat) (aR aR_tape aR_rounds : Nat) (R_length : Int32) (R_roundsRead : Int32) (R_token : Int32) (R_start : Int32) (R_behind : Int32) (R_number : Int32) (R_tape : Nat → Int32) (R_rounds : Nat → Int32) (p0 : Int32) (rr : Int32) (R_length_z : Int32) (R_roundsRead_z : Int32) (R_token_z : Int32) (R_start_z : Int32) (R_behind_z : Int32) (R_number_z : Int32) (R_rounds_z : Nat → Int32) (h : fX2_read R_length R_roundsRead R_token R_start R_behind R_number R_tape R_rounds p0 = some (rr, R_length_z, R_roundsRead_z, R_token_z, R_start_z, R_behind_z, R_number_z, R_rounds_z)) : CtiX l yX2_read wsX2_read rmX2_read (dC, dI) (tyL cI cJ cZ cA) sk sv [(aR, .inr (2, [.ref aR_tape, .ref aR_rounds, .int R_length, .int R_roundsRead, .int R_token, .int R_start, .int R_behind, .int R_number])), (aR_tape, .inl (cI, 300, .inl R_tape)), (aR_rounds, .inl (cI, 20, .inl R_rounds))] [(aR, .inr (2, [.ref aR_tape, .ref aR_rounds, .int R_length_z, .int R_roundsRead_z, .int R_token_z, .int R_start_z, .int R_behind_z, .int R_number_z])), (aR_tape, .inl (cI, 300, .inl R_tape)), (aR_rounds, .inl (cI, 20, .inl R_rounds_z))] [.ref aR, .int p0] rr := by
  refine ct_intX (ty := .int) (cc := cX2_read) (maxL := 4) (by decide) rfl (Nat.le_of_ble_eq_true rfl) ?_
  intro p e s m args below meth c A Q ls hx hb hml hown hts hA hK hP hD hS hl hret hX
  have hl : lv_has ls 4 [(0, .ref aR), (1, .int p0)] := hl
  have k_0 := hts (.fieldLink RX2 18 "BeepNet$Reader" "length" "I") (by decide +kernel)
  have k_1 := hts (.fieldLink RX2 42 "BeepNet$Reader" "token" "I") (by decide +kernel)
  have k_2 := hts (.fieldLink RX2 24 "BeepNet$Reader" "roundsRead" "I") (by decide +kernel)
  have k_3 := hts (.fieldLink RX2 36 "BeepNet$Reader" "behind" "I") (by decide +kernel)
  have hiX2 : ∀ w ∈ u_ws RX2 TX2 8, w ∈ wsX2_read := fun w hw => List.mem_cons_of_mem _ (List.mem_append_right _ hw)
  have hC47 : ∀ (R_length : Int32) (R_roundsRead : Int32) (R_token : Int32) (R_start : Int32) (R_behind : Int32) (R_number : Int32) (R_rounds : Nat → Int32) (x2 : Int32) (H : Heap) (locs : List Loc) (ls : Array Slot), fX2_read_c47 R_tape R_length R_roundsRead R_token R_start R_behind R_number R_rounds x2 = some (rr, R_length_z, R_roundsRead_z, R_token_z, R_start_z, R_behind_z, R_number_z, R_rounds_z) → va_P (dC, dI) vwCl [(aR, .inr (2, [.ref aR_tape, .ref aR_rounds, .int R_length, .int R_roundsRead, .int R_token, .int R_start, .int R_behind, .int R_number])), (aR_tape, .inl (cI, 300, .inl R_tape)), (aR_rounds, .inl (cI, 20, .inl R_rounds))] H → va_D A [(aR, .inr (2, [.ref aR_tape, .ref aR_rounds, .int R_length, .int R_roundsRead, .int R_token, .int R_start, .int R_behind, .int R_number])), (aR_tape, .inl (cI, 300, .inl R_tape)), (aR_rounds, .inl (cI, 20, .inl R_rounds))] → va_S A s.heap H locs → lv_has ls 4 [(0, .ref aR), (2, .int x2)] → W p l e rmX2_read s m args below meth c H locs 0 0 Q (F0 m 47 ls []) := by
    intro R_length R_roundsRead R_token R_start R_behind R_number R_rounds x2 H locs ls h hP hD hS hl
    unfold fX2_read_c47 at h
    refine lv_aload_n hx hb dX2_read_47 rfl (lv_at hl 0 rfl) ?_
    refine lv_iconst (v := 0) hx hb dX2_read_48 (by decide) ?_
    refine ka_put (w1 := [(aR, .inr (2, [.ref aR_tape, .ref aR_rounds, .int 0, .int R_roundsRead, .int R_token, .int R_start, .int R_behind, .int R_number])), (aR_tape, .inl (cI, 300, .inl R_tape)), (aR_rounds, .inl (cI, 20, .inl R_rounds))]) (C := RX2) (T := TX2) (Nf := 8) (ref := "BeepNet$Reader") hx hb hts hiX2 tyX2 tyX2_ok nmX2 hown hK hP hD hS 0 rfl rfl 2 (by decide) k_0 rfl rfl rfl (Nat.le_of_ble_eq_true rfl) dX2_read_49 rfl (fun H locs hP hD hS => ?_)
    refine lv_iload_n hx hb dX2_read_52 rfl (lv_at hl 1 rfl) ?_
    obtain ⟨rfl, rfl, rfl, rfl, rfl, rfl, rfl, rfl⟩ := sj8 h
    exact hret _ _ _ _ _ rfl rfl hP hD hS dX2_read_53
  have hC18 : ∀ (n : Nat) (R_length : Int32) (R_roundsRead : Int32) (R_token : Int32) (R_start : Int32) (R_behind : Int32) (R_number : Int32) (R_rounds : Nat → Int32) (x1 : Int32) (x2 : Int32) (x3 : Int32) (H : Heap) (locs : List Loc) (ls : Array Slot), fX2_read_c18 R_tape n R_length R_roundsRead R_token R_start R_behind R_number R_rounds x1 x2 x3 = some (rr, R_length_z, R_roundsRead_z, R_token_z, R_start_z, R_behind_z, R_number_z, R_rounds_z) → va_P (dC, dI) vwCl [(aR, .inr (2, [.ref aR_tape, .ref aR_rounds, .int R_length, .int R_roundsRead, .int R_token, .int R_start, .int R_behind, .int R_number])), (aR_tape, .inl (cI, 300, .inl R_tape)), (aR_rounds, .inl (cI, 20, .inl R_rounds))] H → va_D A [(aR, .inr (2, [.ref aR_tape, .ref aR_rounds, .int R_length, .int R_roundsRead, .int R_token, .int R_start, .int R_behind, .int R_number])), (aR_tape, .inl (cI, 300, .inl R_tape)), (aR_rounds, .inl (cI, 20, .inl R_rounds))] → va_S A s.heap H locs → lv_has ls 4 [(0, .ref aR), (1, .int x1), (2, .int x2), (3, .int x3)] → W p l e rmX2_read s m args below meth c H locs 0 0 Q (F0 m 18 ls []) := by
    intro n
    induction n with
    | zero => intro R_length R_roundsRead R_token R_start R_behind R_number R_rounds x1 x2 x3 H locs ls h; rw [fX2_read_c18] at h; cases h
    | succ n18 ih18 =>
      intro R_length R_roundsRead R_token R_start R_behind R_number R_rounds x1 x2 x3 H locs ls h hP hD hS hl
      rw [fX2_read_c18] at h
      refine lv_iload_n hx hb dX2_read_18 rfl (lv_at hl 3 rfl) ?_
      refine lv_bipush (v := 20) hx hb dX2_read_19 (by decide) ?_
      refine lv_icmp_gt (tgt := 47) hx hb dX2_read_21 (by decide) (fun c1901 => ?_) (fun c1901 => ?_)
      · have h := ift c1901 h
        exact hC47 R_length R_roundsRead R_token R_start R_behind R_number R_rounds x2 _ _ _ h hP hD hS (lv_sub hl [0, 2] rfl)
      · have h := ifn c1901 h
        refine lv_iload_n hx hb dX2_read_24 rfl (lv_at hl 2 rfl) ?_
        refine lv_if_ne (tgt := 47) hx hb dX2_read_25 (by decide) (fun c1902 => ?_) (fun c1902 => ?_)
        · have h := ifn c1902 h
          exact hC47 R_length R_roundsRead R_token R_start R_behind R_number R_rounds x2 _ _ _ h hP hD hS (lv_sub hl [0, 2] rfl)
        · have h := ift c1902 h
          refine lv_aload_n hx hb dX2_read_28 rfl (lv_at hl 0 rfl) ?_
          refine ka_get (v := .int R_token) (C := RX2) (T := TX2) (Nf := 8) (ref := "BeepNet$Reader") hx hb hts hiX2 hown hK hP 0 rfl rfl 4 (by decide) k_1 rfl rfl dX2_read_29 ?_
          refine lv_if_eq (tgt := 47) hx hb dX2_read_32 (by decide) (fun c1903 => ?_) (fun c1903 => ?_)
          · have h := ift c1903 h
            exact hC47 R_length R_roundsRead R_token R_start R_behind R_number R_rounds x2 _ _ _ h hP hD hS (lv_sub hl [0, 2] rfl)
          · have h := ifn c1903 h
            refine lv_aload_n hx hb dX2_read_35 rfl (lv_at hl 0 rfl) ?_
            refine lv_iload_n hx hb dX2_read_36 rfl (lv_at hl 1 rfl) ?_
            obtain ⟨r1904, R_roundsRead_1905, R_token_1906, R_start_1907, R_behind_1908, R_number_1909, R_rounds_1910, e1911, h⟩ := bd7_s h
            refine kc_viX hX (rest := []) (wr := []) (wF := [(aR, .inr (2, [.ref aR_tape, .ref aR_rounds, .int R_length, .int R_roundsRead_1905, .int R_token_1906, .int R_start_1907, .int R_behind_1908, .int R_number_1909])), (aR_tape, .inl (cI, 300, .inl R_tape)), (aR_rounds, .inl (cI, 20, .inl R_rounds_1910))]) ⟨hx, hb, hml, hown, hts⟩ (c_X2_readRound l dC dI cI cJ cZ cA sk sv aR aR_tape aR_rounds R_length R_roundsRead R_token R_start R_behind R_number R_tape R_rounds x1 r1904 R_roundsRead_1905 R_token_1906 R_start_1907 R_behind_1908 R_number_1909 R_rounds_1910 e1911) (cwV 1 hts gX2_read_X2_readRound rfl rfl rfl (by decide +kernel) ⟨Nat.le_of_ble_eq_true rfl, Nat.le_of_ble_eq_true rfl⟩) hK hP hD hS hA [0, 1, 2] [] [0, 1, 2] 0 rfl rfl rfl rfl (by decide) rfl rfl rfl rfl rfl rfl hl.1 rfl (Nat.le_of_ble_eq_true rfl) dX2_read_37 ⟨Nat.zero_le _, Nat.zero_le _⟩ (fun H locs hP hD hS => ?_)
            refine lv_istore_n (lv' := [(2, .int r1904), (0, .ref aR), (1, .int x1), (3, .int x3)]) hx hb dX2_read_40 rfl hl (by decide) rfl (fun ls hl => ?_)
            refine lv_iinc (v := x3 + 1) (lv' := [(3, .int (x3 + 1)), (2, .int r1904), (0, .ref aR), (1, .int x1)]) hx hb dX2_read_41 hl (k := 3) rfl rfl (by decide) rfl (fun ls hl => ?_)
            refine lv_goto (tgt := 18) hx hb dX2_read_44 (by decide) ?_
            exact ih18 R_length R_roundsRead_1905 R_token_1906 R_start_1907 R_behind_1908 R_number_1909 R_rounds_1910 x1 r1904 (x3 + 1) _ _ _ h hP hD hS (lv_sub hl [2, 3, 1, 0] rfl)
  unfold fX2_read at h
  refine lv_iconst (v := 0) hx hb dX2_read_0 (by decide) ?_
  refine lv_istore_n (lv' := [(2, .int 0), (0, .ref aR), (1, .int p0)]) hx hb dX2_read_1 rfl hl (by decide) rfl (fun ls hl => ?_)
  refine lv_aload_n hx hb dX2_read_2 rfl (lv_at hl 1 rfl) ?_
  refine lv_iconst (v := 0) hx hb dX2_read_3 (by decide) ?_
  refine ka_put (w1 := [(aR, .inr (2, [.ref aR_tape, .ref aR_rounds, .int R_length, .int 0, .int R_token, .int R_start, .int R_behind, .int R_number])), (aR_tape, .inl (cI, 300, .inl R_tape)), (aR_rounds, .inl (cI, 20, .inl R_rounds))]) (C := RX2) (T := TX2) (Nf := 8) (ref := "BeepNet$Reader") hx hb hts hiX2 tyX2 tyX2_ok nmX2 hown hK hP hD hS 0 rfl rfl 3 (by decide) k_2 rfl rfl rfl (Nat.le_of_ble_eq_true rfl) dX2_read_4 rfl (fun H locs hP hD hS => ?_)
  refine lv_aload_n hx hb dX2_read_7 rfl (lv_at hl 1 rfl) ?_
  refine lv_iconst (v := 0) hx hb dX2_read_8 (by decide) ?_
  refine ka_put (w1 := [(aR, .inr (2, [.ref aR_tape, .ref aR_rounds, .int R_length, .int 0, .int R_token, .int R_start, .int 0, .int R_number])), (aR_tape, .inl (cI, 300, .inl R_tape)), (aR_rounds, .inl (cI, 20, .inl R_rounds))]) (C := RX2) (T := TX2) (Nf := 8) (ref := "BeepNet$Reader") hx hb hts hiX2 tyX2 tyX2_ok nmX2 hown hK hP hD hS 0 rfl rfl 6 (by decide) k_3 rfl rfl rfl (Nat.le_of_ble_eq_true rfl) dX2_read_9 rfl (fun H locs hP hD hS => ?_)
  refine lv_aload_n hx hb dX2_read_12 rfl (lv_at hl 1 rfl) ?_
  obtain ⟨R_token_1, R_start_2, R_behind_3, R_number_4, e5, h⟩ := bd4_s h
  refine kc_vvX hX (rest := []) (wr := [(aR_rounds, .inl (cI, 20, .inl R_rounds))]) (wF := [(aR, .inr (2, [.ref aR_tape, .ref aR_rounds, .int R_length, .int 0, .int R_token_1, .int R_start_2, .int R_behind_3, .int R_number_4])), (aR_tape, .inl (cI, 300, .inl R_tape)), (aR_rounds, .inl (cI, 20, .inl R_rounds))]) ⟨hx, hb, hml, hown, hts⟩ (c_X2_advance l dC dI cI cJ cZ cA sk sv aR aR_tape aR_rounds R_length 0 R_token R_start 0 R_number R_tape R_token_1 R_start_2 R_behind_3 R_number_4 e5) (cwV 0 hts gX2_read_X2_advance rfl rfl rfl (by decide +kernel) ⟨Nat.le_of_ble_eq_true rfl, Nat.le_of_ble_eq_true rfl⟩) hK hP hD hS hA [0, 1] [2] [1, 2, 0] 0 rfl rfl rfl rfl (by decide) rfl rfl rfl rfl rfl rfl hl.1 rfl (Nat.le_of_ble_eq_true rfl) dX2_read_13 ⟨Nat.zero_le _, Nat.zero_le _⟩ (fun H locs hP hD hS => ?_)
  refine lv_iconst (v := 0) hx hb dX2_read_16 (by decide) ?_
  refine lv_istore_n (lv' := [(3, .int 0), (2, .int 0), (0, .ref aR), (1, .int p0)]) hx hb dX2_read_17 rfl hl (by decide) rfl (fun ls hl => ?_)
  exact hC18 FU R_length 0 R_token_1 R_start_2 R_behind_3 R_number_4 R_rounds p0 0 0 _ _ _ h hP hD hS (lv_sub hl [2, 3, 1, 0] rfl)
