set_option maxHeartbeats 4000000 in
set_option maxRecDepth 100000 in
theorem c_X4_isMissing (l : Launch) (dC : Nat → ClassId) (dI : Nat → Nat → Nat) (cI cJ cZ cA : ClassId) (aS aS_lanes aS_sizes aS_items : Nat) (S_lanes : Nat → Int32) (p0 : Int32) (rr : Int32) (h : fX4_isMissing S_lanes p0 = some rr) : Cti l yX4_isMissing wsX4_isMissing rmX4_isMissing (dC, dI) (tyL cI cJ cZ cA) [(aS, .inr (4, [.ref aS_lanes, .ref aS_sizes, .ref aS_items])), (aS_lanes, .inl (cI, 8, .inl S_lanes))] [(aS, .inr (4, [.ref aS_lanes, .ref aS_sizes, .ref aS_items])), (aS_lanes, .inl (cI, 8, .inl S_lanes))] [.ref aS, .int p0] rr := by
  refine ct_int (ty := .boolean) (cc := cX4_isMissing) (maxL := 2) (by decide) rfl (Nat.le_of_ble_eq_true rfl) ?_
  intro p e s m args below meth c A Q ls hx hb hml hown hts hA hK hP hD hS hl hret
  have hl : lv_has ls 2 [(0, .ref aS), (1, .int p0)] := hl
  have k_0 := hts (.fieldLink RX4 9 "BeepNet$Sheets" "lanes" "[I") (by decide +kernel)
  have hiX4 : ∀ w ∈ u_ws RX4 TX4 3, w ∈ wsX4_isMissing := fun w hw => List.mem_cons_of_mem _ (List.mem_append_right _ hw)
  unfold fX4_isMissing at h
  refine lv_aload_n hx hb dX4_isMissing_0 rfl (lv_at hl 0 rfl) ?_
  refine ka_get (v := .ref aS_lanes) (C := RX4) (T := TX4) (Nf := 3) (ref := "BeepNet$Sheets") hx hb hts hiX4 hown hK hP 0 rfl rfl 0 (by decide) k_0 rfl rfl dX4_isMissing_1 ?_
  refine lv_iload_n hx hb dX4_isMissing_4 rfl (lv_at hl 1 rfl) ?_
  obtain ⟨v1, ev1, hn2, h⟩ := ldx_s h
  refine ka_ild hx hb hK hP 1 0 ev1 rfl rfl hn2 dX4_isMissing_5 ?_
  refine lv_iconst (v := -1) hx hb dX4_isMissing_6 (by decide) ?_
  refine lv_icmp_ne (tgt := 14) hx hb dX4_isMissing_7 (by decide) (fun c3 => ?_) (fun c3 => ?_)
  · have h := ifn c3 h
    refine lv_iconst (v := 0) hx hb dX4_isMissing_14 (by decide) ?_
    obtain rfl := sj1 h
    exact hret _ _ _ _ _ rfl rfl hP hD hS dX4_isMissing_15
  · have h := ift c3 h
    refine lv_iconst (v := 1) hx hb dX4_isMissing_10 (by decide) ?_
    refine lv_goto (tgt := 15) hx hb dX4_isMissing_11 (by decide) ?_
    obtain rfl := sj1 h
    exact hret _ _ _ _ _ rfl rfl hP hD hS dX4_isMissing_15
set_option maxHeartbeats 4000000 in
set_option maxRecDepth 100000 in
theorem c_X4_size (l : Launch) (dC : Nat → ClassId) (dI : Nat → Nat → Nat) (cI cJ cZ cA : ClassId) (aS aS_lanes aS_sizes aS_items : Nat) (S_lanes : Nat → Int32) (rr : Int32) (h : fX4_size S_lanes = some rr) : Cti l yX4_size wsX4_size rmX4_size (dC, dI) (tyL cI cJ cZ cA) [(aS, .inr (4, [.ref aS_lanes, .ref aS_sizes, .ref aS_items])), (aS_lanes, .inl (cI, 8, .inl S_lanes))] [(aS, .inr (4, [.ref aS_lanes, .ref aS_sizes, .ref aS_items])), (aS_lanes, .inl (cI, 8, .inl S_lanes))] [.ref aS] rr := by
  refine ct_int (ty := .int) (cc := cX4_size) (maxL := 3) (by decide) rfl (Nat.le_of_ble_eq_true rfl) ?_
  intro p e s m args below meth c A Q ls hx hb hml hown hts hA hK hP hD hS hl hret
  have hl : lv_has ls 3 [(0, .ref aS)] := hl
  have hC4 : ∀ (n : Nat) (x1 : Int32) (x2 : Int32) (H : Heap) (locs : List Loc) (ls : Array Slot), fX4_size_c4 S_lanes n x1 x2 = some rr → va_P (dC, dI) vwCl [(aS, .inr (4, [.ref aS_lanes, .ref aS_sizes, .ref aS_items])), (aS_lanes, .inl (cI, 8, .inl S_lanes))] H → va_D A [(aS, .inr (4, [.ref aS_lanes, .ref aS_sizes, .ref aS_items])), (aS_lanes, .inl (cI, 8, .inl S_lanes))] → va_S A s.heap H locs → lv_has ls 3 [(0, .ref aS), (1, .int x1), (2, .int x2)] → W p l e rmX4_size s m args below meth c H locs 0 0 Q (F0 m 4 ls []) := by
    intro n
    induction n with
    | zero => intro x1 x2 H locs ls h; rw [fX4_size_c4] at h; cases h
    | succ n4 ih4 =>
      intro x1 x2 H locs ls h hP hD hS hl
      rw [fX4_size_c4] at h
      refine lv_iload_n hx hb dX4_size_4 rfl (lv_at hl 2 rfl) ?_
      refine lv_bipush (v := 8) hx hb dX4_size_5 (by decide) ?_
      refine lv_icmp_ge (tgt := 32) hx hb dX4_size_7 (by decide) (fun c501 => ?_) (fun c501 => ?_)
      · have h := ift c501 h
        refine lv_iload_n hx hb dX4_size_32 rfl (lv_at hl 1 rfl) ?_
        obtain rfl := sj1 h
        exact hret _ _ _ _ _ rfl rfl hP hD hS dX4_size_33
      · have h := ifn c501 h
        refine lv_iload_n hx hb dX4_size_10 rfl (lv_at hl 1 rfl) ?_
        refine lv_aload_n hx hb dX4_size_11 rfl (lv_at hl 0 rfl) ?_
        refine lv_iload_n hx hb dX4_size_12 rfl (lv_at hl 2 rfl) ?_
        obtain ⟨r502, e503, h⟩ := bd1_s h
        refine kc_vi (rest := [.int x1]) (wr := []) (wF := [(aS, .inr (4, [.ref aS_lanes, .ref aS_sizes, .ref aS_items])), (aS_lanes, .inl (cI, 8, .inl S_lanes))]) ⟨hx, hb, hml, hown, hts⟩ (c_X4_isMissing l dC dI cI cJ cZ cA aS aS_lanes aS_sizes aS_items S_lanes x2 r502 e503) (cwV 1 hts gX4_size_X4_isMissing rfl rfl rfl (by decide +kernel) ⟨Nat.le_of_ble_eq_true rfl, Nat.le_of_ble_eq_true rfl⟩) hK hP hD hS hA [0, 1] [] [0, 1] 0 rfl rfl rfl rfl (by decide) rfl rfl rfl rfl rfl rfl hl.1 rfl (Nat.le_of_ble_eq_true rfl) dX4_size_13 ⟨Nat.zero_le _, Nat.zero_le _⟩ (fun H locs hP hD hS => ?_)
        refine lv_if_eq (tgt := 23) hx hb dX4_size_16 (by decide) (fun c504 => ?_) (fun c504 => ?_)
        · have h := ift c504 h
          refine lv_iconst (v := 1) hx hb dX4_size_23 (by decide) ?_
          refine lv_iadd hx hb dX4_size_24 ?_
          refine lv_istore_n (lv' := [(1, .int (x1 + (1 : Int32))), (0, .ref aS), (2, .int x2)]) hx hb dX4_size_25 rfl hl (by decide) rfl (fun ls hl => ?_)
          refine lv_iinc (v := x2 + 1) (lv' := [(2, .int (x2 + 1)), (1, .int (x1 + (1 : Int32))), (0, .ref aS)]) hx hb dX4_size_26 hl (k := 2) rfl rfl (by decide) rfl (fun ls hl => ?_)
          refine lv_goto (tgt := 4) hx hb dX4_size_29 (by decide) ?_
          exact ih4 (x1 + (1 : Int32)) (x2 + 1) _ _ _ h hP hD hS (lv_sub hl [2, 1, 0] rfl)
        · have h := ifn c504 h
          refine lv_iconst (v := 0) hx hb dX4_size_19 (by decide) ?_
          refine lv_goto (tgt := 24) hx hb dX4_size_20 (by decide) ?_
          refine lv_iadd hx hb dX4_size_24 ?_
          refine lv_istore_n (lv' := [(1, .int (x1 + (0 : Int32))), (0, .ref aS), (2, .int x2)]) hx hb dX4_size_25 rfl hl (by decide) rfl (fun ls hl => ?_)
          refine lv_iinc (v := x2 + 1) (lv' := [(2, .int (x2 + 1)), (1, .int (x1 + (0 : Int32))), (0, .ref aS)]) hx hb dX4_size_26 hl (k := 2) rfl rfl (by decide) rfl (fun ls hl => ?_)
          refine lv_goto (tgt := 4) hx hb dX4_size_29 (by decide) ?_
          exact ih4 (x1 + (0 : Int32)) (x2 + 1) _ _ _ h hP hD hS (lv_sub hl [2, 1, 0] rfl)
  unfold fX4_size at h
  refine lv_iconst (v := 0) hx hb dX4_size_0 (by decide) ?_
  refine lv_istore_n (lv' := [(1, .int 0), (0, .ref aS)]) hx hb dX4_size_1 rfl hl (by decide) rfl (fun ls hl => ?_)
  refine lv_iconst (v := 0) hx hb dX4_size_2 (by decide) ?_
  refine lv_istore_n (lv' := [(2, .int 0), (1, .int 0), (0, .ref aS)]) hx hb dX4_size_3 rfl hl (by decide) rfl (fun ls hl => ?_)
  exact hC4 FU 0 0 _ _ _ h hP hD hS (lv_sub hl [2, 1, 0] rfl)
set_option maxHeartbeats 4000000 in
set_option maxRecDepth 100000 in
theorem c_X4_begin (l : Launch) (dC : Nat → ClassId) (dI : Nat → Nat → Nat) (cI cJ cZ cA : ClassId) (aS aS_lanes aS_sizes aS_items : Nat) (rA : Nat → Nat) (S_lanes : Nat → Int32) (S_sizes : Nat → Int32) (S_rows : Nat → Nat → Int32) (p0 : Int32) (p1 : Int32) (p2 : Int32) (S_lanes_z : Nat → Int32) (S_sizes_z : Nat → Int32) (S_rows_z : Nat → Nat → Int32) (h : fX4_begin S_lanes S_sizes S_rows p0 p1 p2 = some (S_lanes_z, S_sizes_z, S_rows_z)) : Ctv l yX4_begin wsX4_begin rmX4_begin (dC, dI) (tyL cI cJ cZ cA) [(aS, .inr (4, [.ref aS_lanes, .ref aS_sizes, .ref aS_items])), (aS_lanes, .inl (cI, 8, .inl S_lanes)), (aS_sizes, .inl (cI, 8, .inl S_sizes)), (aS_items, .inl (cA, 8, .inr (.inr (.inr (.inr (rwA rA)))))), (rA 0, .inl (cI, 40, .inl (S_rows 0))), (rA 1, .inl (cI, 40, .inl (S_rows 1))), (rA 2, .inl (cI, 40, .inl (S_rows 2))), (rA 3, .inl (cI, 40, .inl (S_rows 3))), (rA 4, .inl (cI, 40, .inl (S_rows 4))), (rA 5, .inl (cI, 40, .inl (S_rows 5))), (rA 6, .inl (cI, 40, .inl (S_rows 6))), (rA 7, .inl (cI, 40, .inl (S_rows 7)))] [(aS, .inr (4, [.ref aS_lanes, .ref aS_sizes, .ref aS_items])), (aS_lanes, .inl (cI, 8, .inl S_lanes_z)), (aS_sizes, .inl (cI, 8, .inl S_sizes_z)), (aS_items, .inl (cA, 8, .inr (.inr (.inr (.inr (rwA rA)))))), (rA 0, .inl (cI, 40, .inl (S_rows_z 0))), (rA 1, .inl (cI, 40, .inl (S_rows_z 1))), (rA 2, .inl (cI, 40, .inl (S_rows_z 2))), (rA 3, .inl (cI, 40, .inl (S_rows_z 3))), (rA 4, .inl (cI, 40, .inl (S_rows_z 4))), (rA 5, .inl (cI, 40, .inl (S_rows_z 5))), (rA 6, .inl (cI, 40, .inl (S_rows_z 6))), (rA 7, .inl (cI, 40, .inl (S_rows_z 7)))] [.ref aS, .int p0, .int p1, .int p2] := by
  refine ct_void (cc := cX4_begin) (maxL := 4) (by decide) rfl (Nat.le_of_ble_eq_true rfl) ?_
  intro p e s m args below meth c A Q ls hx hb hml hown hts hA hK hP hD hS hl hret
  have hl : lv_has ls 4 [(0, .ref aS), (1, .int p0), (2, .int p1), (3, .int p2)] := hl
  have k_0 := hts (.fieldLink RX4 9 "BeepNet$Sheets" "lanes" "[I") (by decide +kernel)
  have k_1 := hts (.fieldLink RX4 15 "BeepNet$Sheets" "sizes" "[I") (by decide +kernel)
  have k_2 := hts (.fieldLink RX4 20 "BeepNet$Sheets" "items" "[[I") (by decide +kernel)
  have hiX4 : ∀ w ∈ u_ws RX4 TX4 3, w ∈ wsX4_begin := fun w hw => List.mem_cons_of_mem _ (List.mem_append_right _ hw)
  unfold fX4_begin at h
  refine lv_aload_n hx hb dX4_begin_0 rfl (lv_at hl 0 rfl) ?_
  refine ka_get (v := .ref aS_lanes) (C := RX4) (T := TX4) (Nf := 3) (ref := "BeepNet$Sheets") hx hb hts hiX4 hown hK hP 0 rfl rfl 0 (by decide) k_0 rfl rfl dX4_begin_1 ?_
  refine lv_iload_n hx hb dX4_begin_4 rfl (lv_at hl 1 rfl) ?_
  refine lv_iload_n hx hb dX4_begin_5 rfl (lv_at hl 2 rfl) ?_
  obtain ⟨g1, eg1, hn2, h⟩ := sti_s h
  refine ka_ist (w1 := [(aS, .inr (4, [.ref aS_lanes, .ref aS_sizes, .ref aS_items])), (aS_lanes, .inl (cI, 8, .inl g1)), (aS_sizes, .inl (cI, 8, .inl S_sizes)), (aS_items, .inl (cA, 8, .inr (.inr (.inr (.inr (rwA rA)))))), (rA 0, .inl (cI, 40, .inl (S_rows 0))), (rA 1, .inl (cI, 40, .inl (S_rows 1))), (rA 2, .inl (cI, 40, .inl (S_rows 2))), (rA 3, .inl (cI, 40, .inl (S_rows 3))), (rA 4, .inl (cI, 40, .inl (S_rows 4))), (rA 5, .inl (cI, 40, .inl (S_rows 5))), (rA 6, .inl (cI, 40, .inl (S_rows 6))), (rA 7, .inl (cI, 40, .inl (S_rows 7)))]) hx hb hK hP hD hS 1 0 eg1 rfl rfl hn2 dX4_begin_6 rfl (fun H locs hP hD hS => ?_)
  refine lv_aload_n hx hb dX4_begin_7 rfl (lv_at hl 0 rfl) ?_
  refine ka_get (v := .ref aS_sizes) (C := RX4) (T := TX4) (Nf := 3) (ref := "BeepNet$Sheets") hx hb hts hiX4 hown hK hP 0 rfl rfl 1 (by decide) k_1 rfl rfl dX4_begin_8 ?_
  refine lv_iload_n hx hb dX4_begin_11 rfl (lv_at hl 1 rfl) ?_
  refine lv_iload_n hx hb dX4_begin_12 rfl (lv_at hl 3 rfl) ?_
  obtain ⟨g3, eg3, hn4, h⟩ := sti_s h
  refine ka_ist (w1 := [(aS, .inr (4, [.ref aS_lanes, .ref aS_sizes, .ref aS_items])), (aS_lanes, .inl (cI, 8, .inl g1)), (aS_sizes, .inl (cI, 8, .inl g3)), (aS_items, .inl (cA, 8, .inr (.inr (.inr (.inr (rwA rA)))))), (rA 0, .inl (cI, 40, .inl (S_rows 0))), (rA 1, .inl (cI, 40, .inl (S_rows 1))), (rA 2, .inl (cI, 40, .inl (S_rows 2))), (rA 3, .inl (cI, 40, .inl (S_rows 3))), (rA 4, .inl (cI, 40, .inl (S_rows 4))), (rA 5, .inl (cI, 40, .inl (S_rows 5))), (rA 6, .inl (cI, 40, .inl (S_rows 6))), (rA 7, .inl (cI, 40, .inl (S_rows 7)))]) hx hb hK hP hD hS 2 0 eg3 rfl rfl hn4 dX4_begin_13 rfl (fun H locs hP hD hS => ?_)
  refine lv_aload_n hx hb dX4_begin_14 rfl (lv_at hl 0 rfl) ?_
  refine ka_get (v := .ref aS_items) (C := RX4) (T := TX4) (Nf := 3) (ref := "BeepNet$Sheets") hx hb hts hiX4 hown hK hP 0 rfl rfl 2 (by decide) k_2 rfl rfl dX4_begin_15 ?_
  refine lv_iload_n hx hb dX4_begin_18 rfl (lv_at hl 1 rfl) ?_
  obtain ⟨j5, ej5, hn6, hj5, h⟩ := rwx_s h
  refine ka_ald hx hb hK hP 3 3 ej5 rfl rfl hn6 hj5 dX4_begin_19 ?_
  refine lv_iconst (v := 0) hx hb dX4_begin_20 (by decide) ?_
  obtain ⟨g7, eg7, h⟩ := bnd_s h
  obtain ⟨S_rows_8, eS_rows_8, h⟩ := bnd_s h
  subst eS_rows_8
  rcases lt8 hj5 with rfl | rfl | rfl | rfl | rfl | rfl | rfl | rfl
  · refine kc_sv (rest := []) (wr := [(aS, .inr (4, [.ref aS_lanes, .ref aS_sizes, .ref aS_items])), (aS_lanes, .inl (cI, 8, .inl g1)), (aS_sizes, .inl (cI, 8, .inl g3)), (aS_items, .inl (cA, 8, .inr (.inr (.inr (.inr (rwA rA)))))), (rA 1, .inl (cI, 40, .inl (S_rows 1))), (rA 2, .inl (cI, 40, .inl (S_rows 2))), (rA 3, .inl (cI, 40, .inl (S_rows 3))), (rA 4, .inl (cI, 40, .inl (S_rows 4))), (rA 5, .inl (cI, 40, .inl (S_rows 5))), (rA 6, .inl (cI, 40, .inl (S_rows 6))), (rA 7, .inl (cI, 40, .inl (S_rows 7)))]) (wF := [(aS, .inr (4, [.ref aS_lanes, .ref aS_sizes, .ref aS_items])), (aS_lanes, .inl (cI, 8, .inl g1)), (aS_sizes, .inl (cI, 8, .inl g3)), (aS_items, .inl (cA, 8, .inr (.inr (.inr (.inr (rwA rA)))))), (rA 0, .inl (cI, 40, .inl ((va_up S_rows 0 g7) 0))), (rA 1, .inl (cI, 40, .inl ((va_up S_rows 0 g7) 1))), (rA 2, .inl (cI, 40, .inl ((va_up S_rows 0 g7) 2))), (rA 3, .inl (cI, 40, .inl ((va_up S_rows 0 g7) 3))), (rA 4, .inl (cI, 40, .inl ((va_up S_rows 0 g7) 4))), (rA 5, .inl (cI, 40, .inl ((va_up S_rows 0 g7) 5))), (rA 6, .inl (cI, 40, .inl ((va_up S_rows 0 g7) 6))), (rA 7, .inl (cI, 40, .inl ((va_up S_rows 0 g7) 7)))]) ⟨hx, hb, hml, hown, hts⟩ (c_J7_fill_53178 l dC dI cI cJ cZ cA (rA 0) 40 (S_rows 0) 0 g7 (by decide) eg7) (va_cwS 2 hts gX4_begin_J7_fill_53178 rfl rfl rfl (by decide +kernel) ⟨Nat.le_of_ble_eq_true rfl, Nat.le_of_ble_eq_true rfl⟩) hK hP hD hS hA [4] [0, 1, 2, 3, 5, 6, 7, 8, 9, 10, 11] [0, 1, 2, 3, 11, 4, 5, 6, 7, 8, 9, 10] rfl rfl rfl rfl (by decide) rfl rfl rfl hl.1 rfl (Nat.le_of_ble_eq_true rfl) dX4_begin_21 ⟨Nat.zero_le _, Nat.zero_le _⟩ (fun H locs hP hD hS => ?_)
    obtain ⟨rfl, rfl, rfl⟩ := sj3 h
    exact hret _ _ _ _ hP hD hS dX4_begin_24
  · refine kc_sv (rest := []) (wr := [(aS, .inr (4, [.ref aS_lanes, .ref aS_sizes, .ref aS_items])), (aS_lanes, .inl (cI, 8, .inl g1)), (aS_sizes, .inl (cI, 8, .inl g3)), (aS_items, .inl (cA, 8, .inr (.inr (.inr (.inr (rwA rA)))))), (rA 0, .inl (cI, 40, .inl (S_rows 0))), (rA 2, .inl (cI, 40, .inl (S_rows 2))), (rA 3, .inl (cI, 40, .inl (S_rows 3))), (rA 4, .inl (cI, 40, .inl (S_rows 4))), (rA 5, .inl (cI, 40, .inl (S_rows 5))), (rA 6, .inl (cI, 40, .inl (S_rows 6))), (rA 7, .inl (cI, 40, .inl (S_rows 7)))]) (wF := [(aS, .inr (4, [.ref aS_lanes, .ref aS_sizes, .ref aS_items])), (aS_lanes, .inl (cI, 8, .inl g1)), (aS_sizes, .inl (cI, 8, .inl g3)), (aS_items, .inl (cA, 8, .inr (.inr (.inr (.inr (rwA rA)))))), (rA 0, .inl (cI, 40, .inl ((va_up S_rows 1 g7) 0))), (rA 1, .inl (cI, 40, .inl ((va_up S_rows 1 g7) 1))), (rA 2, .inl (cI, 40, .inl ((va_up S_rows 1 g7) 2))), (rA 3, .inl (cI, 40, .inl ((va_up S_rows 1 g7) 3))), (rA 4, .inl (cI, 40, .inl ((va_up S_rows 1 g7) 4))), (rA 5, .inl (cI, 40, .inl ((va_up S_rows 1 g7) 5))), (rA 6, .inl (cI, 40, .inl ((va_up S_rows 1 g7) 6))), (rA 7, .inl (cI, 40, .inl ((va_up S_rows 1 g7) 7)))]) ⟨hx, hb, hml, hown, hts⟩ (c_J7_fill_53178 l dC dI cI cJ cZ cA (rA 1) 40 (S_rows 1) 0 g7 (by decide) eg7) (va_cwS 2 hts gX4_begin_J7_fill_53178 rfl rfl rfl (by decide +kernel) ⟨Nat.le_of_ble_eq_true rfl, Nat.le_of_ble_eq_true rfl⟩) hK hP hD hS hA [5] [0, 1, 2, 3, 4, 6, 7, 8, 9, 10, 11] [0, 1, 2, 3, 4, 11, 5, 6, 7, 8, 9, 10] rfl rfl rfl rfl (by decide) rfl rfl rfl hl.1 rfl (Nat.le_of_ble_eq_true rfl) dX4_begin_21 ⟨Nat.zero_le _, Nat.zero_le _⟩ (fun H locs hP hD hS => ?_)
    obtain ⟨rfl, rfl, rfl⟩ := sj3 h
    exact hret _ _ _ _ hP hD hS dX4_begin_24
  · refine kc_sv (rest := []) (wr := [(aS, .inr (4, [.ref aS_lanes, .ref aS_sizes, .ref aS_items])), (aS_lanes, .inl (cI, 8, .inl g1)), (aS_sizes, .inl (cI, 8, .inl g3)), (aS_items, .inl (cA, 8, .inr (.inr (.inr (.inr (rwA rA)))))), (rA 0, .inl (cI, 40, .inl (S_rows 0))), (rA 1, .inl (cI, 40, .inl (S_rows 1))), (rA 3, .inl (cI, 40, .inl (S_rows 3))), (rA 4, .inl (cI, 40, .inl (S_rows 4))), (rA 5, .inl (cI, 40, .inl (S_rows 5))), (rA 6, .inl (cI, 40, .inl (S_rows 6))), (rA 7, .inl (cI, 40, .inl (S_rows 7)))]) (wF := [(aS, .inr (4, [.ref aS_lanes, .ref aS_sizes, .ref aS_items])), (aS_lanes, .inl (cI, 8, .inl g1)), (aS_sizes, .inl (cI, 8, .inl g3)), (aS_items, .inl (cA, 8, .inr (.inr (.inr (.inr (rwA rA)))))), (rA 0, .inl (cI, 40, .inl ((va_up S_rows 2 g7) 0))), (rA 1, .inl (cI, 40, .inl ((va_up S_rows 2 g7) 1))), (rA 2, .inl (cI, 40, .inl ((va_up S_rows 2 g7) 2))), (rA 3, .inl (cI, 40, .inl ((va_up S_rows 2 g7) 3))), (rA 4, .inl (cI, 40, .inl ((va_up S_rows 2 g7) 4))), (rA 5, .inl (cI, 40, .inl ((va_up S_rows 2 g7) 5))), (rA 6, .inl (cI, 40, .inl ((va_up S_rows 2 g7) 6))), (rA 7, .inl (cI, 40, .inl ((va_up S_rows 2 g7) 7)))]) ⟨hx, hb, hml, hown, hts⟩ (c_J7_fill_53178 l dC dI cI cJ cZ cA (rA 2) 40 (S_rows 2) 0 g7 (by decide) eg7) (va_cwS 2 hts gX4_begin_J7_fill_53178 rfl rfl rfl (by decide +kernel) ⟨Nat.le_of_ble_eq_true rfl, Nat.le_of_ble_eq_true rfl⟩) hK hP hD hS hA [6] [0, 1, 2, 3, 4, 5, 7, 8, 9, 10, 11] [0, 1, 2, 3, 4, 5, 11, 6, 7, 8, 9, 10] rfl rfl rfl rfl (by decide) rfl rfl rfl hl.1 rfl (Nat.le_of_ble_eq_true rfl) dX4_begin_21 ⟨Nat.zero_le _, Nat.zero_le _⟩ (fun H locs hP hD hS => ?_)
    obtain ⟨rfl, rfl, rfl⟩ := sj3 h
    exact hret _ _ _ _ hP hD hS dX4_begin_24
  · refine kc_sv (rest := []) (wr := [(aS, .inr (4, [.ref aS_lanes, .ref aS_sizes, .ref aS_items])), (aS_lanes, .inl (cI, 8, .inl g1)), (aS_sizes, .inl (cI, 8, .inl g3)), (aS_items, .inl (cA, 8, .inr (.inr (.inr (.inr (rwA rA)))))), (rA 0, .inl (cI, 40, .inl (S_rows 0))), (rA 1, .inl (cI, 40, .inl (S_rows 1))), (rA 2, .inl (cI, 40, .inl (S_rows 2))), (rA 4, .inl (cI, 40, .inl (S_rows 4))), (rA 5, .inl (cI, 40, .inl (S_rows 5))), (rA 6, .inl (cI, 40, .inl (S_rows 6))), (rA 7, .inl (cI, 40, .inl (S_rows 7)))]) (wF := [(aS, .inr (4, [.ref aS_lanes, .ref aS_sizes, .ref aS_items])), (aS_lanes, .inl (cI, 8, .inl g1)), (aS_sizes, .inl (cI, 8, .inl g3)), (aS_items, .inl (cA, 8, .inr (.inr (.inr (.inr (rwA rA)))))), (rA 0, .inl (cI, 40, .inl ((va_up S_rows 3 g7) 0))), (rA 1, .inl (cI, 40, .inl ((va_up S_rows 3 g7) 1))), (rA 2, .inl (cI, 40, .inl ((va_up S_rows 3 g7) 2))), (rA 3, .inl (cI, 40, .inl ((va_up S_rows 3 g7) 3))), (rA 4, .inl (cI, 40, .inl ((va_up S_rows 3 g7) 4))), (rA 5, .inl (cI, 40, .inl ((va_up S_rows 3 g7) 5))), (rA 6, .inl (cI, 40, .inl ((va_up S_rows 3 g7) 6))), (rA 7, .inl (cI, 40, .inl ((va_up S_rows 3 g7) 7)))]) ⟨hx, hb, hml, hown, hts⟩ (c_J7_fill_53178 l dC dI cI cJ cZ cA (rA 3) 40 (S_rows 3) 0 g7 (by decide) eg7) (va_cwS 2 hts gX4_begin_J7_fill_53178 rfl rfl rfl (by decide +kernel) ⟨Nat.le_of_ble_eq_true rfl, Nat.le_of_ble_eq_true rfl⟩) hK hP hD hS hA [7] [0, 1, 2, 3, 4, 5, 6, 8, 9, 10, 11] [0, 1, 2, 3, 4, 5, 6, 11, 7, 8, 9, 10] rfl rfl rfl rfl (by decide) rfl rfl rfl hl.1 rfl (Nat.le_of_ble_eq_true rfl) dX4_begin_21 ⟨Nat.zero_le _, Nat.zero_le _⟩ (fun H locs hP hD hS => ?_)
    obtain ⟨rfl, rfl, rfl⟩ := sj3 h
    exact hret _ _ _ _ hP hD hS dX4_begin_24
  · refine kc_sv (rest := []) (wr := [(aS, .inr (4, [.ref aS_lanes, .ref aS_sizes, .ref aS_items])), (aS_lanes, .inl (cI, 8, .inl g1)), (aS_sizes, .inl (cI, 8, .inl g3)), (aS_items, .inl (cA, 8, .inr (.inr (.inr (.inr (rwA rA)))))), (rA 0, .inl (cI, 40, .inl (S_rows 0))), (rA 1, .inl (cI, 40, .inl (S_rows 1))), (rA 2, .inl (cI, 40, .inl (S_rows 2))), (rA 3, .inl (cI, 40, .inl (S_rows 3))), (rA 5, .inl (cI, 40, .inl (S_rows 5))), (rA 6, .inl (cI, 40, .inl (S_rows 6))), (rA 7, .inl (cI, 40, .inl (S_rows 7)))]) (wF := [(aS, .inr (4, [.ref aS_lanes, .ref aS_sizes, .ref aS_items])), (aS_lanes, .inl (cI, 8, .inl g1)), (aS_sizes, .inl (cI, 8, .inl g3)), (aS_items, .inl (cA, 8, .inr (.inr (.inr (.inr (rwA rA)))))), (rA 0, .inl (cI, 40, .inl ((va_up S_rows 4 g7) 0))), (rA 1, .inl (cI, 40, .inl ((va_up S_rows 4 g7) 1))), (rA 2, .inl (cI, 40, .inl ((va_up S_rows 4 g7) 2))), (rA 3, .inl (cI, 40, .inl ((va_up S_rows 4 g7) 3))), (rA 4, .inl (cI, 40, .inl ((va_up S_rows 4 g7) 4))), (rA 5, .inl (cI, 40, .inl ((va_up S_rows 4 g7) 5))), (rA 6, .inl (cI, 40, .inl ((va_up S_rows 4 g7) 6))), (rA 7, .inl (cI, 40, .inl ((va_up S_rows 4 g7) 7)))]) ⟨hx, hb, hml, hown, hts⟩ (c_J7_fill_53178 l dC dI cI cJ cZ cA (rA 4) 40 (S_rows 4) 0 g7 (by decide) eg7) (va_cwS 2 hts gX4_begin_J7_fill_53178 rfl rfl rfl (by decide +kernel) ⟨Nat.le_of_ble_eq_true rfl, Nat.le_of_ble_eq_true rfl⟩) hK hP hD hS hA [8] [0, 1, 2, 3, 4, 5, 6, 7, 9, 10, 11] [0, 1, 2, 3, 4, 5, 6, 7, 11, 8, 9, 10] rfl rfl rfl rfl (by decide) rfl rfl rfl hl.1 rfl (Nat.le_of_ble_eq_true rfl) dX4_begin_21 ⟨Nat.zero_le _, Nat.zero_le _⟩ (fun H locs hP hD hS => ?_)
    obtain ⟨rfl, rfl, rfl⟩ := sj3 h
    exact hret _ _ _ _ hP hD hS dX4_begin_24
  · refine kc_sv (rest := []) (wr := [(aS, .inr (4, [.ref aS_lanes, .ref aS_sizes, .ref aS_items])), (aS_lanes, .inl (cI, 8, .inl g1)), (aS_sizes, .inl (cI, 8, .inl g3)), (aS_items, .inl (cA, 8, .inr (.inr (.inr (.inr (rwA rA)))))), (rA 0, .inl (cI, 40, .inl (S_rows 0))), (rA 1, .inl (cI, 40, .inl (S_rows 1))), (rA 2, .inl (cI, 40, .inl (S_rows 2))), (rA 3, .inl (cI, 40, .inl (S_rows 3))), (rA 4, .inl (cI, 40, .inl (S_rows 4))), (rA 6, .inl (cI, 40, .inl (S_rows 6))), (rA 7, .inl (cI, 40, .inl (S_rows 7)))]) (wF := [(aS, .inr (4, [.ref aS_lanes, .ref aS_sizes, .ref aS_items])), (aS_lanes, .inl (cI, 8, .inl g1)), (aS_sizes, .inl (cI, 8, .inl g3)), (aS_items, .inl (cA, 8, .inr (.inr (.inr (.inr (rwA rA)))))), (rA 0, .inl (cI, 40, .inl ((va_up S_rows 5 g7) 0))), (rA 1, .inl (cI, 40, .inl ((va_up S_rows 5 g7) 1))), (rA 2, .inl (cI, 40, .inl ((va_up S_rows 5 g7) 2))), (rA 3, .inl (cI, 40, .inl ((va_up S_rows 5 g7) 3))), (rA 4, .inl (cI, 40, .inl ((va_up S_rows 5 g7) 4))), (rA 5, .inl (cI, 40, .inl ((va_up S_rows 5 g7) 5))), (rA 6, .inl (cI, 40, .inl ((va_up S_rows 5 g7) 6))), (rA 7, .inl (cI, 40, .inl ((va_up S_rows 5 g7) 7)))]) ⟨hx, hb, hml, hown, hts⟩ (c_J7_fill_53178 l dC dI cI cJ cZ cA (rA 5) 40 (S_rows 5) 0 g7 (by decide) eg7) (va_cwS 2 hts gX4_begin_J7_fill_53178 rfl rfl rfl (by decide +kernel) ⟨Nat.le_of_ble_eq_true rfl, Nat.le_of_ble_eq_true rfl⟩) hK hP hD hS hA [9] [0, 1, 2, 3, 4, 5, 6, 7, 8, 10, 11] [0, 1, 2, 3, 4, 5, 6, 7, 8, 11, 9, 10] rfl rfl rfl rfl (by decide) rfl rfl rfl hl.1 rfl (Nat.le_of_ble_eq_true rfl) dX4_begin_21 ⟨Nat.zero_le _, Nat.zero_le _⟩ (fun H locs hP hD hS => ?_)
    obtain ⟨rfl, rfl, rfl⟩ := sj3 h
    exact hret _ _ _ _ hP hD hS dX4_begin_24
  · refine kc_sv (rest := []) (wr := [(aS, .inr (4, [.ref aS_lanes, .ref aS_sizes, .ref aS_items])), (aS_lanes, .inl (cI, 8, .inl g1)), (aS_sizes, .inl (cI, 8, .inl g3)), (aS_items, .inl (cA, 8, .inr (.inr (.inr (.inr (rwA rA)))))), (rA 0, .inl (cI, 40, .inl (S_rows 0))), (rA 1, .inl (cI, 40, .inl (S_rows 1))), (rA 2, .inl (cI, 40, .inl (S_rows 2))), (rA 3, .inl (cI, 40, .inl (S_rows 3))), (rA 4, .inl (cI, 40, .inl (S_rows 4))), (rA 5, .inl (cI, 40, .inl (S_rows 5))), (rA 7, .inl (cI, 40, .inl (S_rows 7)))]) (wF := [(aS, .inr (4, [.ref aS_lanes, .ref aS_sizes, .ref aS_items])), (aS_lanes, .inl (cI, 8, .inl g1)), (aS_sizes, .inl (cI, 8, .inl g3)), (aS_items, .inl (cA, 8, .inr (.inr (.inr (.inr (rwA rA)))))), (rA 0, .inl (cI, 40, .inl ((va_up S_rows 6 g7) 0))), (rA 1, .inl (cI, 40, .inl ((va_up S_rows 6 g7) 1))), (rA 2, .inl (cI, 40, .inl ((va_up S_rows 6 g7) 2))), (rA 3, .inl (cI, 40, .inl ((va_up S_rows 6 g7) 3))), (rA 4, .inl (cI, 40, .inl ((va_up S_rows 6 g7) 4))), (rA 5, .inl (cI, 40, .inl ((va_up S_rows 6 g7) 5))), (rA 6, .inl (cI, 40, .inl ((va_up S_rows 6 g7) 6))), (rA 7, .inl (cI, 40, .inl ((va_up S_rows 6 g7) 7)))]) ⟨hx, hb, hml, hown, hts⟩ (c_J7_fill_53178 l dC dI cI cJ cZ cA (rA 6) 40 (S_rows 6) 0 g7 (by decide) eg7) (va_cwS 2 hts gX4_begin_J7_fill_53178 rfl rfl rfl (by decide +kernel) ⟨Nat.le_of_ble_eq_true rfl, Nat.le_of_ble_eq_true rfl⟩) hK hP hD hS hA [10] [0, 1, 2, 3, 4, 5, 6, 7, 8, 9, 11] [0, 1, 2, 3, 4, 5, 6, 7, 8, 9, 11, 10] rfl rfl rfl rfl (by decide) rfl rfl rfl hl.1 rfl (Nat.le_of_ble_eq_true rfl) dX4_begin_21 ⟨Nat.zero_le _, Nat.zero_le _⟩ (fun H locs hP hD hS => ?_)
    obtain ⟨rfl, rfl, rfl⟩ := sj3 h
    exact hret _ _ _ _ hP hD hS dX4_begin_24
  · refine kc_sv (rest := []) (wr := [(aS, .inr (4, [.ref aS_lanes, .ref aS_sizes, .ref aS_items])), (aS_lanes, .inl (cI, 8, .inl g1)), (aS_sizes, .inl (cI, 8, .inl g3)), (aS_items, .inl (cA, 8, .inr (.inr (.inr (.inr (rwA rA)))))), (rA 0, .inl (cI, 40, .inl (S_rows 0))), (rA 1, .inl (cI, 40, .inl (S_rows 1))), (rA 2, .inl (cI, 40, .inl (S_rows 2))), (rA 3, .inl (cI, 40, .inl (S_rows 3))), (rA 4, .inl (cI, 40, .inl (S_rows 4))), (rA 5, .inl (cI, 40, .inl (S_rows 5))), (rA 6, .inl (cI, 40, .inl (S_rows 6)))]) (wF := [(aS, .inr (4, [.ref aS_lanes, .ref aS_sizes, .ref aS_items])), (aS_lanes, .inl (cI, 8, .inl g1)), (aS_sizes, .inl (cI, 8, .inl g3)), (aS_items, .inl (cA, 8, .inr (.inr (.inr (.inr (rwA rA)))))), (rA 0, .inl (cI, 40, .inl ((va_up S_rows 7 g7) 0))), (rA 1, .inl (cI, 40, .inl ((va_up S_rows 7 g7) 1))), (rA 2, .inl (cI, 40, .inl ((va_up S_rows 7 g7) 2))), (rA 3, .inl (cI, 40, .inl ((va_up S_rows 7 g7) 3))), (rA 4, .inl (cI, 40, .inl ((va_up S_rows 7 g7) 4))), (rA 5, .inl (cI, 40, .inl ((va_up S_rows 7 g7) 5))), (rA 6, .inl (cI, 40, .inl ((va_up S_rows 7 g7) 6))), (rA 7, .inl (cI, 40, .inl ((va_up S_rows 7 g7) 7)))]) ⟨hx, hb, hml, hown, hts⟩ (c_J7_fill_53178 l dC dI cI cJ cZ cA (rA 7) 40 (S_rows 7) 0 g7 (by decide) eg7) (va_cwS 2 hts gX4_begin_J7_fill_53178 rfl rfl rfl (by decide +kernel) ⟨Nat.le_of_ble_eq_true rfl, Nat.le_of_ble_eq_true rfl⟩) hK hP hD hS hA [11] [0, 1, 2, 3, 4, 5, 6, 7, 8, 9, 10] [0, 1, 2, 3, 4, 5, 6, 7, 8, 9, 10, 11] rfl rfl rfl rfl (by decide) rfl rfl rfl hl.1 rfl (Nat.le_of_ble_eq_true rfl) dX4_begin_21 ⟨Nat.zero_le _, Nat.zero_le _⟩ (fun H locs hP hD hS => ?_)
    obtain ⟨rfl, rfl, rfl⟩ := sj3 h
    exact hret _ _ _ _ hP hD hS dX4_begin_24
set_option maxHeartbeats 4000000 in
set_option maxRecDepth 100000 in
theorem c_X4_remove (l : Launch) (dC : Nat → ClassId) (dI : Nat → Nat → Nat) (cI cJ cZ cA : ClassId) (aS aS_lanes aS_sizes aS_items : Nat) (S_lanes : Nat → Int32) (S_sizes : Nat → Int32) (p0 : Int32) (rr : Int32) (S_lanes_z : Nat → Int32) (h : fX4_remove S_lanes S_sizes p0 = some (rr, S_lanes_z)) : Cti l yX4_remove wsX4_remove rmX4_remove (dC, dI) (tyL cI cJ cZ cA) [(aS, .inr (4, [.ref aS_lanes, .ref aS_sizes, .ref aS_items])), (aS_lanes, .inl (cI, 8, .inl S_lanes)), (aS_sizes, .inl (cI, 8, .inl S_sizes))] [(aS, .inr (4, [.ref aS_lanes, .ref aS_sizes, .ref aS_items])), (aS_lanes, .inl (cI, 8, .inl S_lanes_z)), (aS_sizes, .inl (cI, 8, .inl S_sizes))] [.ref aS, .int p0] rr := by
  refine ct_int (ty := .int) (cc := cX4_remove) (maxL := 2) (by decide) rfl (Nat.le_of_ble_eq_true rfl) ?_
  intro p e s m args below meth c A Q ls hx hb hml hown hts hA hK hP hD hS hl hret
  have hl : lv_has ls 2 [(0, .ref aS), (1, .int p0)] := hl
  have k_0 := hts (.fieldLink RX4 9 "BeepNet$Sheets" "lanes" "[I") (by decide +kernel)
  have k_1 := hts (.fieldLink RX4 15 "BeepNet$Sheets" "sizes" "[I") (by decide +kernel)
  have hiX4 : ∀ w ∈ u_ws RX4 TX4 3, w ∈ wsX4_remove := fun w hw => List.mem_cons_of_mem _ (List.mem_append_right _ hw)
  unfold fX4_remove at h
  refine lv_aload_n hx hb dX4_remove_0 rfl (lv_at hl 0 rfl) ?_
  refine ka_get (v := .ref aS_lanes) (C := RX4) (T := TX4) (Nf := 3) (ref := "BeepNet$Sheets") hx hb hts hiX4 hown hK hP 0 rfl rfl 0 (by decide) k_0 rfl rfl dX4_remove_1 ?_
  refine lv_iload_n hx hb dX4_remove_4 rfl (lv_at hl 1 rfl) ?_
  refine lv_iconst (v := -1) hx hb dX4_remove_5 (by decide) ?_
  obtain ⟨g1, eg1, hn2, h⟩ := sti_s h
  refine ka_ist (w1 := [(aS, .inr (4, [.ref aS_lanes, .ref aS_sizes, .ref aS_items])), (aS_lanes, .inl (cI, 8, .inl g1)), (aS_sizes, .inl (cI, 8, .inl S_sizes))]) hx hb hK hP hD hS 1 0 eg1 rfl rfl hn2 dX4_remove_6 rfl (fun H locs hP hD hS => ?_)
  refine lv_aload_n hx hb dX4_remove_7 rfl (lv_at hl 0 rfl) ?_
  refine ka_get (v := .ref aS_sizes) (C := RX4) (T := TX4) (Nf := 3) (ref := "BeepNet$Sheets") hx hb hts hiX4 hown hK hP 0 rfl rfl 1 (by decide) k_1 rfl rfl dX4_remove_8 ?_
  refine lv_iload_n hx hb dX4_remove_11 rfl (lv_at hl 1 rfl) ?_
  obtain ⟨v3, ev3, hn4, h⟩ := ldx_s h
  refine ka_ild hx hb hK hP 2 0 ev3 rfl rfl hn4 dX4_remove_12 ?_
  obtain ⟨rfl, rfl⟩ := sj2 h
  exact hret _ _ _ _ _ rfl rfl hP hD hS dX4_remove_13
set_option maxHeartbeats 4000000 in
set_option maxRecDepth 100000 in
theorem c_X4_hasPlaces (l : Launch) (dC : Nat → ClassId) (dI : Nat → Nat → Nat) (cI cJ cZ cA : ClassId) (aS aS_lanes aS_sizes aS_items : Nat) (S_sizes : Nat → Int32) (p0 : Int32) (p1 : Int32) (p2 : Int32) (rr : Int32) (h : fX4_hasPlaces S_sizes p0 p1 p2 = some rr) : Cti l yX4_hasPlaces wsX4_hasPlaces rmX4_hasPlaces (dC, dI) (tyL cI cJ cZ cA) [(aS, .inr (4, [.ref aS_lanes, .ref aS_sizes, .ref aS_items])), (aS_sizes, .inl (cI, 8, .inl S_sizes))] [(aS, .inr (4, [.ref aS_lanes, .ref aS_sizes, .ref aS_items])), (aS_sizes, .inl (cI, 8, .inl S_sizes))] [.ref aS, .int p0, .int p1, .int p2] rr := by
  refine ct_int (ty := .boolean) (cc := cX4_hasPlaces) (maxL := 4) (by decide) rfl (Nat.le_of_ble_eq_true rfl) ?_
  intro p e s m args below meth c A Q ls hx hb hml hown hts hA hK hP hD hS hl hret
  have hl : lv_has ls 4 [(0, .ref aS), (1, .int p0), (2, .int p1), (3, .int p2)] := hl
  have k_0 := hts (.fieldLink RX4 15 "BeepNet$Sheets" "sizes" "[I") (by decide +kernel)
  have hiX4 : ∀ w ∈ u_ws RX4 TX4 3, w ∈ wsX4_hasPlaces := fun w hw => List.mem_cons_of_mem _ (List.mem_append_right _ hw)
  unfold fX4_hasPlaces at h
  refine lv_iload_n hx hb dX4_hasPlaces_0 rfl (lv_at hl 2 rfl) ?_
  refine lv_if_lt (tgt := 34) hx hb dX4_hasPlaces_1 (by decide) (fun c1 => ?_) (fun c1 => ?_)
  · have h := ift c1 h
    refine lv_iconst (v := 0) hx hb dX4_hasPlaces_34 (by decide) ?_
    obtain rfl := sj1 h
    exact hret _ _ _ _ _ rfl rfl hP hD hS dX4_hasPlaces_35
  · have h := ifn c1 h
    refine lv_iload_n hx hb dX4_hasPlaces_4 rfl (lv_at hl 3 rfl) ?_
    refine lv_if_lt (tgt := 34) hx hb dX4_hasPlaces_5 (by decide) (fun c2 => ?_) (fun c2 => ?_)
    · have h := ift c2 h
      refine lv_iconst (v := 0) hx hb dX4_hasPlaces_34 (by decide) ?_
      obtain rfl := sj1 h
      exact hret _ _ _ _ _ rfl rfl hP hD hS dX4_hasPlaces_35
    · have h := ifn c2 h
      refine lv_iload_n hx hb dX4_hasPlaces_8 rfl (lv_at hl 2 rfl) ?_
      refine lv_aload_n hx hb dX4_hasPlaces_9 rfl (lv_at hl 0 rfl) ?_
      refine ka_get (v := .ref aS_sizes) (C := RX4) (T := TX4) (Nf := 3) (ref := "BeepNet$Sheets") hx hb hts hiX4 hown hK hP 0 rfl rfl 1 (by decide) k_0 rfl rfl dX4_hasPlaces_10 ?_
      refine lv_iload_n hx hb dX4_hasPlaces_13 rfl (lv_at hl 1 rfl) ?_
      obtain ⟨v3, ev3, hn4, h⟩ := ldx_s h
      refine ka_ild hx hb hK hP 1 0 ev3 rfl rfl hn4 dX4_hasPlaces_14 ?_
      refine lv_icmp_gt (tgt := 34) hx hb dX4_hasPlaces_15 (by decide) (fun c5 => ?_) (fun c5 => ?_)
      · have h := ift c5 h
        refine lv_iconst (v := 0) hx hb dX4_hasPlaces_34 (by decide) ?_
        obtain rfl := sj1 h
        exact hret _ _ _ _ _ rfl rfl hP hD hS dX4_hasPlaces_35
      · have h := ifn c5 h
        refine lv_iload_n hx hb dX4_hasPlaces_18 rfl (lv_at hl 3 rfl) ?_
        refine lv_aload_n hx hb dX4_hasPlaces_19 rfl (lv_at hl 0 rfl) ?_
        refine ka_get (v := .ref aS_sizes) (C := RX4) (T := TX4) (Nf := 3) (ref := "BeepNet$Sheets") hx hb hts hiX4 hown hK hP 0 rfl rfl 1 (by decide) k_0 rfl rfl dX4_hasPlaces_20 ?_
        refine lv_iload_n hx hb dX4_hasPlaces_23 rfl (lv_at hl 1 rfl) ?_
        obtain ⟨v6, ev6, hn7, h⟩ := ldx_s h
        refine ka_ild hx hb hK hP 1 0 ev6 rfl rfl hn7 dX4_hasPlaces_24 ?_
        refine lv_iload_n hx hb dX4_hasPlaces_25 rfl (lv_at hl 2 rfl) ?_
        refine lv_isub hx hb dX4_hasPlaces_26 ?_
        refine lv_icmp_gt (tgt := 34) hx hb dX4_hasPlaces_27 (by decide) (fun c8 => ?_) (fun c8 => ?_)
        · have h := ift c8 h
          refine lv_iconst (v := 0) hx hb dX4_hasPlaces_34 (by decide) ?_
          obtain rfl := sj1 h
          exact hret _ _ _ _ _ rfl rfl hP hD hS dX4_hasPlaces_35
        · have h := ifn c8 h
          refine lv_iconst (v := 1) hx hb dX4_hasPlaces_30 (by decide) ?_
          refine lv_goto (tgt := 35) hx hb dX4_hasPlaces_31 (by decide) ?_
          obtain rfl := sj1 h
          exact hret _ _ _ _ _ rfl rfl hP hD hS dX4_hasPlaces_35
set_option maxHeartbeats 4000000 in
set_option maxRecDepth 100000 in
theorem c_X4_findPlaces (l : Launch) (dC : Nat → ClassId) (dI : Nat → Nat → Nat) (cI cJ cZ cA : ClassId) (aS aS_lanes aS_sizes aS_items : Nat) (S_lanes : Nat → Int32) (S_sizes : Nat → Int32) (p0 : Int32) (p1 : Int32) (p2 : Int32) (rr : Int32) (h : fX4_findPlaces S_lanes S_sizes p0 p1 p2 = some rr) : Cti l yX4_findPlaces wsX4_findPlaces rmX4_findPlaces (dC, dI) (tyL cI cJ cZ cA) [(aS, .inr (4, [.ref aS_lanes, .ref aS_sizes, .ref aS_items])), (aS_lanes, .inl (cI, 8, .inl S_lanes)), (aS_sizes, .inl (cI, 8, .inl S_sizes))] [(aS, .inr (4, [.ref aS_lanes, .ref aS_sizes, .ref aS_items])), (aS_lanes, .inl (cI, 8, .inl S_lanes)), (aS_sizes, .inl (cI, 8, .inl S_sizes))] [.ref aS, .int p0, .int p1, .int p2] rr := by
  refine ct_int (ty := .int) (cc := cX4_findPlaces) (maxL := 4) (by decide) rfl (Nat.le_of_ble_eq_true rfl) ?_
  intro p e s m args below meth c A Q ls hx hb hml hown hts hA hK hP hD hS hl hret
  have hl : lv_has ls 4 [(0, .ref aS), (1, .int p0), (2, .int p1), (3, .int p2)] := hl
  unfold fX4_findPlaces at h
  refine lv_aload_n hx hb dX4_findPlaces_0 rfl (lv_at hl 0 rfl) ?_
  refine lv_iload_n hx hb dX4_findPlaces_1 rfl (lv_at hl 1 rfl) ?_
  obtain ⟨r1, e2, h⟩ := bd1_s h
  refine kc_vi (rest := []) (wr := [(aS_sizes, .inl (cI, 8, .inl S_sizes))]) (wF := [(aS, .inr (4, [.ref aS_lanes, .ref aS_sizes, .ref aS_items])), (aS_lanes, .inl (cI, 8, .inl S_lanes)), (aS_sizes, .inl (cI, 8, .inl S_sizes))]) ⟨hx, hb, hml, hown, hts⟩ (c_X4_isMissing l dC dI cI cJ cZ cA aS aS_lanes aS_sizes aS_items S_lanes p0 r1 e2) (cwV 1 hts gX4_findPlaces_X4_isMissing rfl rfl rfl (by decide +kernel) ⟨Nat.le_of_ble_eq_true rfl, Nat.le_of_ble_eq_true rfl⟩) hK hP hD hS hA [0, 1] [2] [1, 2, 0] 0 rfl rfl rfl rfl (by decide) rfl rfl rfl rfl rfl rfl hl.1 rfl (Nat.le_of_ble_eq_true rfl) dX4_findPlaces_2 ⟨Nat.zero_le _, Nat.zero_le _⟩ (fun H locs hP hD hS => ?_)
  refine lv_if_eq (tgt := 10) hx hb dX4_findPlaces_5 (by decide) (fun c3 => ?_) (fun c3 => ?_)
  · have h := ift c3 h
    refine lv_aload_n hx hb dX4_findPlaces_10 rfl (lv_at hl 0 rfl) ?_
    refine lv_iload_n hx hb dX4_findPlaces_11 rfl (lv_at hl 1 rfl) ?_
    refine lv_iload_n hx hb dX4_findPlaces_12 rfl (lv_at hl 2 rfl) ?_
    refine lv_iload_n hx hb dX4_findPlaces_13 rfl (lv_at hl 3 rfl) ?_
    obtain ⟨r4, e5, h⟩ := bd1_s h
    refine kc_vi (rest := []) (wr := [(aS_lanes, .inl (cI, 8, .inl S_lanes))]) (wF := [(aS, .inr (4, [.ref aS_lanes, .ref aS_sizes, .ref aS_items])), (aS_lanes, .inl (cI, 8, .inl S_lanes)), (aS_sizes, .inl (cI, 8, .inl S_sizes))]) ⟨hx, hb, hml, hown, hts⟩ (c_X4_hasPlaces l dC dI cI cJ cZ cA aS aS_lanes aS_sizes aS_items S_sizes p0 p1 p2 r4 e5) (cwV 3 hts gX4_findPlaces_X4_hasPlaces rfl rfl rfl (by decide +kernel) ⟨Nat.le_of_ble_eq_true rfl, Nat.le_of_ble_eq_true rfl⟩) hK hP hD hS hA [0, 2] [1] [1, 0, 2] 0 rfl rfl rfl rfl (by decide) rfl rfl rfl rfl rfl rfl hl.1 rfl (Nat.le_of_ble_eq_true rfl) dX4_findPlaces_14 ⟨Nat.zero_le _, Nat.zero_le _⟩ (fun H locs hP hD hS => ?_)
    refine lv_if_eq (tgt := 24) hx hb dX4_findPlaces_17 (by decide) (fun c6 => ?_) (fun c6 => ?_)
    · have h := ift c6 h
      refine lv_iconst (v := 2) hx hb dX4_findPlaces_24 (by decide) ?_
      obtain rfl := sj1 h
      exact hret _ _ _ _ _ rfl rfl hP hD hS dX4_findPlaces_25
    · have h := ifn c6 h
      refine lv_iconst (v := 0) hx hb dX4_findPlaces_20 (by decide) ?_
      refine lv_goto (tgt := 25) hx hb dX4_findPlaces_21 (by decide) ?_
      obtain rfl := sj1 h
      exact hret _ _ _ _ _ rfl rfl hP hD hS dX4_findPlaces_25
  · have h := ifn c3 h
    refine lv_iconst (v := 1) hx hb dX4_findPlaces_8 (by decide) ?_
    obtain rfl := sj1 h
    exact hret _ _ _ _ _ rfl rfl hP hD hS dX4_findPlaces_9
set_option maxHeartbeats 4000000 in
set_option maxRecDepth 100000 in
theorem c_X4_findMove (l : Launch) (dC : Nat → ClassId) (dI : Nat → Nat → Nat) (cI cJ cZ cA : ClassId) (aS aS_lanes aS_sizes aS_items : Nat) (S_lanes : Nat → Int32) (S_sizes : Nat → Int32) (p0 : Int32) (p1 : Int32) (p2 : Int32) (p3 : Int32) (p4 : Int32) (rr : Int32) (h : fX4_findMove S_lanes S_sizes p0 p1 p2 p3 p4 = some rr) : Cti l yX4_findMove wsX4_findMove rmX4_findMove (dC, dI) (tyL cI cJ cZ cA) [(aS, .inr (4, [.ref aS_lanes, .ref aS_sizes, .ref aS_items])), (aS_lanes, .inl (cI, 8, .inl S_lanes)), (aS_sizes, .inl (cI, 8, .inl S_sizes))] [(aS, .inr (4, [.ref aS_lanes, .ref aS_sizes, .ref aS_items])), (aS_lanes, .inl (cI, 8, .inl S_lanes)), (aS_sizes, .inl (cI, 8, .inl S_sizes))] [.ref aS, .int p0, .int p1, .int p2, .int p3, .int p4] rr := by
  refine ct_int (ty := .int) (cc := cX4_findMove) (maxL := 6) (by decide) rfl (Nat.le_of_ble_eq_true rfl) ?_
  intro p e s m args below meth c A Q ls hx hb hml hown hts hA hK hP hD hS hl hret
  have hl : lv_has ls 6 [(0, .ref aS), (1, .int p0), (2, .int p1), (3, .int p2), (4, .int p3), (5, .int p4)] := hl
  have k_0 := hts (.fieldLink RX4 9 "BeepNet$Sheets" "lanes" "[I") (by decide +kernel)
  have hiX4 : ∀ w ∈ u_ws RX4 TX4 3, w ∈ wsX4_findMove := fun w hw => List.mem_cons_of_mem _ (List.mem_append_right _ hw)
  unfold fX4_findMove at h
  refine lv_aload_n hx hb dX4_findMove_0 rfl (lv_at hl 0 rfl) ?_
  refine lv_iload_n hx hb dX4_findMove_1 rfl (lv_at hl 1 rfl) ?_
  obtain ⟨r1, e2, h⟩ := bd1_s h
  refine kc_vi (rest := []) (wr := [(aS_sizes, .inl (cI, 8, .inl S_sizes))]) (wF := [(aS, .inr (4, [.ref aS_lanes, .ref aS_sizes, .ref aS_items])), (aS_lanes, .inl (cI, 8, .inl S_lanes)), (aS_sizes, .inl (cI, 8, .inl S_sizes))]) ⟨hx, hb, hml, hown, hts⟩ (c_X4_isMissing l dC dI cI cJ cZ cA aS aS_lanes aS_sizes aS_items S_lanes p0 r1 e2) (cwV 1 hts gX4_findMove_X4_isMissing rfl rfl rfl (by decide +kernel) ⟨Nat.le_of_ble_eq_true rfl, Nat.le_of_ble_eq_true rfl⟩) hK hP hD hS hA [0, 1] [2] [1, 2, 0] 0 rfl rfl rfl rfl (by decide) rfl rfl rfl rfl rfl rfl hl.1 rfl (Nat.le_of_ble_eq_true rfl) dX4_findMove_2 ⟨Nat.zero_le _, Nat.zero_le _⟩ (fun H locs hP hD hS => ?_)
  refine lv_if_ne (tgt := 16) hx hb dX4_findMove_5 (by decide) (fun c3 => ?_) (fun c3 => ?_)
  · have h := ifn c3 h
    refine lv_iconst (v := 1) hx hb dX4_findMove_16 (by decide) ?_
    obtain rfl := sj1 h
    exact hret _ _ _ _ _ rfl rfl hP hD hS dX4_findMove_17
  · have h := ift c3 h
    refine lv_aload_n hx hb dX4_findMove_8 rfl (lv_at hl 0 rfl) ?_
    refine lv_iload_n hx hb dX4_findMove_9 rfl (lv_at hl 3 rfl) ?_
    obtain ⟨r4, e5, h⟩ := bd1_s h
    refine kc_vi (rest := []) (wr := [(aS_sizes, .inl (cI, 8, .inl S_sizes))]) (wF := [(aS, .inr (4, [.ref aS_lanes, .ref aS_sizes, .ref aS_items])), (aS_lanes, .inl (cI, 8, .inl S_lanes)), (aS_sizes, .inl (cI, 8, .inl S_sizes))]) ⟨hx, hb, hml, hown, hts⟩ (c_X4_isMissing l dC dI cI cJ cZ cA aS aS_lanes aS_sizes aS_items S_lanes p2 r4 e5) (cwV 1 hts gX4_findMove_X4_isMissing rfl rfl rfl (by decide +kernel) ⟨Nat.le_of_ble_eq_true rfl, Nat.le_of_ble_eq_true rfl⟩) hK hP hD hS hA [0, 1] [2] [1, 2, 0] 0 rfl rfl rfl rfl (by decide) rfl rfl rfl rfl rfl rfl hl.1 rfl (Nat.le_of_ble_eq_true rfl) dX4_findMove_10 ⟨Nat.zero_le _, Nat.zero_le _⟩ (fun H locs hP hD hS => ?_)
    refine lv_if_eq (tgt := 18) hx hb dX4_findMove_13 (by decide) (fun c6 => ?_) (fun c6 => ?_)
    · have h := ift c6 h
      refine lv_aload_n hx hb dX4_findMove_18 rfl (lv_at hl 0 rfl) ?_
      refine ka_get (v := .ref aS_lanes) (C := RX4) (T := TX4) (Nf := 3) (ref := "BeepNet$Sheets") hx hb hts hiX4 hown hK hP 0 rfl rfl 0 (by decide) k_0 rfl rfl dX4_findMove_19 ?_
      refine lv_iload_n hx hb dX4_findMove_22 rfl (lv_at hl 1 rfl) ?_
      obtain ⟨v7, ev7, hn8, h⟩ := ldx_s h
      refine ka_ild hx hb hK hP 1 0 ev7 rfl rfl hn8 dX4_findMove_23 ?_
      refine lv_aload_n hx hb dX4_findMove_24 rfl (lv_at hl 0 rfl) ?_
      refine ka_get (v := .ref aS_lanes) (C := RX4) (T := TX4) (Nf := 3) (ref := "BeepNet$Sheets") hx hb hts hiX4 hown hK hP 0 rfl rfl 0 (by decide) k_0 rfl rfl dX4_findMove_25 ?_
      refine lv_iload_n hx hb dX4_findMove_28 rfl (lv_at hl 3 rfl) ?_
      obtain ⟨v9, ev9, hn10, h⟩ := ldx_s h
      refine ka_ild hx hb hK hP 1 0 ev9 rfl rfl hn10 dX4_findMove_29 ?_
      refine lv_icmp_eq (tgt := 35) hx hb dX4_findMove_30 (by decide) (fun c11 => ?_) (fun c11 => ?_)
      · have h := ift c11 h
        refine lv_aload_n hx hb dX4_findMove_35 rfl (lv_at hl 0 rfl) ?_
        refine lv_iload_n hx hb dX4_findMove_36 rfl (lv_at hl 1 rfl) ?_
        refine lv_iload_n hx hb dX4_findMove_37 rfl (lv_at hl 2 rfl) ?_
        refine lv_iload hx hb dX4_findMove_38 (lv_at hl 5 rfl) ?_
        obtain ⟨r12, e13, h⟩ := bd1_s h
        refine kc_vi (rest := []) (wr := [(aS_lanes, .inl (cI, 8, .inl S_lanes))]) (wF := [(aS, .inr (4, [.ref aS_lanes, .ref aS_sizes, .ref aS_items])), (aS_lanes, .inl (cI, 8, .inl S_lanes)), (aS_sizes, .inl (cI, 8, .inl S_sizes))]) ⟨hx, hb, hml, hown, hts⟩ (c_X4_hasPlaces l dC dI cI cJ cZ cA aS aS_lanes aS_sizes aS_items S_sizes p0 p1 p4 r12 e13) (cwV 3 hts gX4_findMove_X4_hasPlaces rfl rfl rfl (by decide +kernel) ⟨Nat.le_of_ble_eq_true rfl, Nat.le_of_ble_eq_true rfl⟩) hK hP hD hS hA [0, 2] [1] [1, 0, 2] 0 rfl rfl rfl rfl (by decide) rfl rfl rfl rfl rfl rfl hl.1 rfl (Nat.le_of_ble_eq_true rfl) dX4_findMove_40 ⟨Nat.zero_le _, Nat.zero_le _⟩ (fun H locs hP hD hS => ?_)
        refine lv_if_eq (tgt := 62) hx hb dX4_findMove_43 (by decide) (fun c14 => ?_) (fun c14 => ?_)
        · have h := ift c14 h
          refine lv_iconst (v := 2) hx hb dX4_findMove_62 (by decide) ?_
          obtain rfl := sj1 h
          exact hret _ _ _ _ _ rfl rfl hP hD hS dX4_findMove_63
        · have h := ifn c14 h
          refine lv_aload_n hx hb dX4_findMove_46 rfl (lv_at hl 0 rfl) ?_
          refine lv_iload_n hx hb dX4_findMove_47 rfl (lv_at hl 3 rfl) ?_
          refine lv_iload hx hb dX4_findMove_48 (lv_at hl 4 rfl) ?_
          refine lv_iload hx hb dX4_findMove_50 (lv_at hl 5 rfl) ?_
          obtain ⟨r15, e16, h⟩ := bd1_s h
          refine kc_vi (rest := []) (wr := [(aS_lanes, .inl (cI, 8, .inl S_lanes))]) (wF := [(aS, .inr (4, [.ref aS_lanes, .ref aS_sizes, .ref aS_items])), (aS_lanes, .inl (cI, 8, .inl S_lanes)), (aS_sizes, .inl (cI, 8, .inl S_sizes))]) ⟨hx, hb, hml, hown, hts⟩ (c_X4_hasPlaces l dC dI cI cJ cZ cA aS aS_lanes aS_sizes aS_items S_sizes p2 p3 p4 r15 e16) (cwV 3 hts gX4_findMove_X4_hasPlaces rfl rfl rfl (by decide +kernel) ⟨Nat.le_of_ble_eq_true rfl, Nat.le_of_ble_eq_true rfl⟩) hK hP hD hS hA [0, 2] [1] [1, 0, 2] 0 rfl rfl rfl rfl (by decide) rfl rfl rfl rfl rfl rfl hl.1 rfl (Nat.le_of_ble_eq_true rfl) dX4_findMove_52 ⟨Nat.zero_le _, Nat.zero_le _⟩ (fun H locs hP hD hS => ?_)
          refine lv_if_eq (tgt := 62) hx hb dX4_findMove_55 (by decide) (fun c17 => ?_) (fun c17 => ?_)
          · have h := ift c17 h
            refine lv_iconst (v := 2) hx hb dX4_findMove_62 (by decide) ?_
            obtain rfl := sj1 h
            exact hret _ _ _ _ _ rfl rfl hP hD hS dX4_findMove_63
          · have h := ifn c17 h
            refine lv_iconst (v := 0) hx hb dX4_findMove_58 (by decide) ?_
            refine lv_goto (tgt := 63) hx hb dX4_findMove_59 (by decide) ?_
            obtain rfl := sj1 h
            exact hret _ _ _ _ _ rfl rfl hP hD hS dX4_findMove_63
      · have h := ifn c11 h
        refine lv_iconst (v := 5) hx hb dX4_findMove_33 (by decide) ?_
        obtain rfl := sj1 h
        exact hret _ _ _ _ _ rfl rfl hP hD hS dX4_findMove_34
    · have h := ifn c6 h
      refine lv_iconst (v := 1) hx hb dX4_findMove_16 (by decide) ?_
      obtain rfl := sj1 h
      exact hret _ _ _ _ _ rfl rfl hP hD hS dX4_findMove_17
set_option maxHeartbeats 4000000 in
set_option maxRecDepth 100000 in
theorem c_X4_narrowed (l : Launch) (dC : Nat → ClassId) (dI : Nat → Nat → Nat) (cI cJ cZ cA : ClassId) (p0 : Int32) (p1 : Int32) (rr : Int32) (h : fX4_narrowed p0 p1 = some rr) : Cti l yX4_narrowed wsX4_narrowed rmX4_narrowed (dC, dI) (tyL cI cJ cZ cA) [] [] [.int p0, .int p1] rr := by
  refine ct_int (ty := .int) (cc := cX4_narrowed) (maxL := 2) (by decide) rfl (Nat.le_of_ble_eq_true rfl) ?_
  intro p e s m args below meth c A Q ls hx hb hml hown hts hA hK hP hD hS hl hret
  have hl : lv_has ls 2 [(0, .int p0), (1, .int p1)] := hl
  unfold fX4_narrowed at h
  refine lv_iload_n hx hb dX4_narrowed_0 rfl (lv_at hl 0 rfl) ?_
  refine lv_if_ne (tgt := 7) hx hb dX4_narrowed_1 (by decide) (fun c1 => ?_) (fun c1 => ?_)
  · have h := ifn c1 h
    refine lv_iload_n hx hb dX4_narrowed_7 rfl (lv_at hl 0 rfl) ?_
    refine lv_iconst (v := 1) hx hb dX4_narrowed_8 (by decide) ?_
    refine lv_icmp_ne (tgt := 17) hx hb dX4_narrowed_9 (by decide) (fun c2 => ?_) (fun c2 => ?_)
    · have h := ifn c2 h
      refine lv_iload_n hx hb dX4_narrowed_17 rfl (lv_at hl 1 rfl) ?_
      obtain rfl := sj1 h
      exact hret _ _ _ _ _ rfl rfl hP hD hS dX4_narrowed_18
    · have h := ift c2 h
      refine lv_iload_n hx hb dX4_narrowed_12 rfl (lv_at hl 1 rfl) ?_
      refine lv_i2s hx hb dX4_narrowed_13 rfl ?_
      refine lv_goto (tgt := 18) hx hb dX4_narrowed_14 (by decide) ?_
      obtain rfl := sj1 h
      exact hret _ _ _ _ _ rfl rfl hP hD hS dX4_narrowed_18
  · have h := ift c1 h
    refine lv_iload_n hx hb dX4_narrowed_4 rfl (lv_at hl 1 rfl) ?_
    refine lv_i2b hx hb dX4_narrowed_5 rfl ?_
    obtain rfl := sj1 h
    exact hret _ _ _ _ _ rfl rfl hP hD hS dX4_narrowed_6
set_option maxHeartbeats 4000000 in
set_option maxRecDepth 100000 in
theorem c_X4_put (l : Launch) (dC : Nat → ClassId) (dI : Nat → Nat → Nat) (cI cJ cZ cA : ClassId) (aS aS_lanes aS_sizes aS_items : Nat) (rA : Nat → Nat) (S_lanes : Nat → Int32) (S_rows : Nat → Nat → Int32) (p0 : Int32) (p1 : Int32) (p2 : Int32) (rr : Int32) (S_rows_z : Nat → Nat → Int32) (h : fX4_put S_lanes S_rows p0 p1 p2 = some (rr, S_rows_z)) : Cti l yX4_put wsX4_put rmX4_put (dC, dI) (tyL cI cJ cZ cA) [(aS, .inr (4, [.ref aS_lanes, .ref aS_sizes, .ref aS_items])), (aS_lanes, .inl (cI, 8, .inl S_lanes)), (aS_items, .inl (cA, 8, .inr (.inr (.inr (.inr (rwA rA)))))), (rA 0, .inl (cI, 40, .inl (S_rows 0))), (rA 1, .inl (cI, 40, .inl (S_rows 1))), (rA 2, .inl (cI, 40, .inl (S_rows 2))), (rA 3, .inl (cI, 40, .inl (S_rows 3))), (rA 4, .inl (cI, 40, .inl (S_rows 4))), (rA 5, .inl (cI, 40, .inl (S_rows 5))), (rA 6, .inl (cI, 40, .inl (S_rows 6))), (rA 7, .inl (cI, 40, .inl (S_rows 7)))] [(aS, .inr (4, [.ref aS_lanes, .ref aS_sizes, .ref aS_items])), (aS_lanes, .inl (cI, 8, .inl S_lanes)), (aS_items, .inl (cA, 8, .inr (.inr (.inr (.inr (rwA rA)))))), (rA 0, .inl (cI, 40, .inl (S_rows_z 0))), (rA 1, .inl (cI, 40, .inl (S_rows_z 1))), (rA 2, .inl (cI, 40, .inl (S_rows_z 2))), (rA 3, .inl (cI, 40, .inl (S_rows_z 3))), (rA 4, .inl (cI, 40, .inl (S_rows_z 4))), (rA 5, .inl (cI, 40, .inl (S_rows_z 5))), (rA 6, .inl (cI, 40, .inl (S_rows_z 6))), (rA 7, .inl (cI, 40, .inl (S_rows_z 7)))] [.ref aS, .int p0, .int p1, .int p2] rr := by
  refine ct_int (ty := .int) (cc := cX4_put) (maxL := 4) (by decide) rfl (Nat.le_of_ble_eq_true rfl) ?_
  intro p e s m args below meth c A Q ls hx hb hml hown hts hA hK hP hD hS hl hret
  have hl : lv_has ls 4 [(0, .ref aS), (1, .int p0), (2, .int p1), (3, .int p2)] := hl
  have k_0 := hts (.fieldLink RX4 20 "BeepNet$Sheets" "items" "[[I") (by decide +kernel)
  have k_1 := hts (.fieldLink RX4 9 "BeepNet$Sheets" "lanes" "[I") (by decide +kernel)
  have hiX4 : ∀ w ∈ u_ws RX4 TX4 3, w ∈ wsX4_put := fun w hw => List.mem_cons_of_mem _ (List.mem_append_right _ hw)
  unfold fX4_put at h
  refine lv_aload_n hx hb dX4_put_0 rfl (lv_at hl 0 rfl) ?_
  refine ka_get (v := .ref aS_items) (C := RX4) (T := TX4) (Nf := 3) (ref := "BeepNet$Sheets") hx hb hts hiX4 hown hK hP 0 rfl rfl 2 (by decide) k_0 rfl rfl dX4_put_1 ?_
  refine lv_iload_n hx hb dX4_put_4 rfl (lv_at hl 1 rfl) ?_
  obtain ⟨j1, ej1, hn2, hj1, h⟩ := rwx_s h
  refine ka_ald hx hb hK hP 2 3 ej1 rfl rfl hn2 hj1 dX4_put_5 ?_
  refine lv_iload_n hx hb dX4_put_6 rfl (lv_at hl 2 rfl) ?_
  refine lv_aload_n hx hb dX4_put_7 rfl (lv_at hl 0 rfl) ?_
  refine ka_get (v := .ref aS_lanes) (C := RX4) (T := TX4) (Nf := 3) (ref := "BeepNet$Sheets") hx hb hts hiX4 hown hK hP 0 rfl rfl 0 (by decide) k_1 rfl rfl dX4_put_8 ?_
  refine lv_iload_n hx hb dX4_put_11 rfl (lv_at hl 1 rfl) ?_
  obtain ⟨v3, ev3, hn4, h⟩ := ldx_s h
  refine ka_ild hx hb hK hP 1 0 ev3 rfl rfl hn4 dX4_put_12 ?_
  refine lv_iload_n hx hb dX4_put_13 rfl (lv_at hl 3 rfl) ?_
  obtain ⟨r5, e6, h⟩ := bd1_s h
  refine kc_si (rest := [.int p1, .ref (rA j1)]) (wr := [(aS, .inr (4, [.ref aS_lanes, .ref aS_sizes, .ref aS_items])), (aS_lanes, .inl (cI, 8, .inl S_lanes)), (aS_items, .inl (cA, 8, .inr (.inr (.inr (.inr (rwA rA)))))), (rA 0, .inl (cI, 40, .inl (S_rows 0))), (rA 1, .inl (cI, 40, .inl (S_rows 1))), (rA 2, .inl (cI, 40, .inl (S_rows 2))), (rA 3, .inl (cI, 40, .inl (S_rows 3))), (rA 4, .inl (cI, 40, .inl (S_rows 4))), (rA 5, .inl (cI, 40, .inl (S_rows 5))), (rA 6, .inl (cI, 40, .inl (S_rows 6))), (rA 7, .inl (cI, 40, .inl (S_rows 7)))]) (wF := [(aS, .inr (4, [.ref aS_lanes, .ref aS_sizes, .ref aS_items])), (aS_lanes, .inl (cI, 8, .inl S_lanes)), (aS_items, .inl (cA, 8, .inr (.inr (.inr (.inr (rwA rA)))))), (rA 0, .inl (cI, 40, .inl (S_rows 0))), (rA 1, .inl (cI, 40, .inl (S_rows 1))), (rA 2, .inl (cI, 40, .inl (S_rows 2))), (rA 3, .inl (cI, 40, .inl (S_rows 3))), (rA 4, .inl (cI, 40, .inl (S_rows 4))), (rA 5, .inl (cI, 40, .inl (S_rows 5))), (rA 6, .inl (cI, 40, .inl (S_rows 6))), (rA 7, .inl (cI, 40, .inl (S_rows 7)))]) ⟨hx, hb, hml, hown, hts⟩ (c_X4_narrowed l dC dI cI cJ cZ cA v3 p2 r5 e6) (va_cwS 2 hts gX4_put_X4_narrowed rfl rfl rfl (by decide +kernel) ⟨Nat.le_of_ble_eq_true rfl, Nat.le_of_ble_eq_true rfl⟩) hK hP hD hS hA [] [0, 1, 2, 3, 4, 5, 6, 7, 8, 9, 10] [0, 1, 2, 3, 4, 5, 6, 7, 8, 9, 10] rfl rfl rfl rfl (by decide) rfl rfl rfl hl.1 rfl (Nat.le_of_ble_eq_true rfl) dX4_put_14 ⟨Nat.zero_le _, Nat.zero_le _⟩ (fun H locs hP hD hS => ?_)
  obtain ⟨g7, eg7, hn8, h⟩ := sti_s h
  obtain ⟨S_rows_11, eS_rows_11, h⟩ := bnd_s h
  have hw9 : ([(aS, .inr (4, [.ref aS_lanes, .ref aS_sizes, .ref aS_items])), (aS_lanes, .inl (cI, 8, .inl S_lanes)), (aS_items, .inl (cA, 8, .inr (.inr (.inr (.inr (rwA rA)))))), (rA 0, .inl (cI, 40, .inl (S_rows 0))), (rA 1, .inl (cI, 40, .inl (S_rows 1))), (rA 2, .inl (cI, 40, .inl (S_rows 2))), (rA 3, .inl (cI, 40, .inl (S_rows 3))), (rA 4, .inl (cI, 40, .inl (S_rows 4))), (rA 5, .inl (cI, 40, .inl (S_rows 5))), (rA 6, .inl (cI, 40, .inl (S_rows 6))), (rA 7, .inl (cI, 40, .inl (S_rows 7)))] : va_W)[3 + j1]? = some (rA j1, .inl (cI, 40, .inl (S_rows j1))) := by match j1, hj1 with | 0, _ => rfl | 1, _ => rfl | 2, _ => rfl | 3, _ => rfl | 4, _ => rfl | 5, _ => rfl | 6, _ => rfl | 7, _ => rfl | n + 8, hq => exact absurd hq (by omega)
  have hs10 : ([(aS, .inr (4, [.ref aS_lanes, .ref aS_sizes, .ref aS_items])), (aS_lanes, .inl (cI, 8, .inl S_lanes)), (aS_items, .inl (cA, 8, .inr (.inr (.inr (.inr (rwA rA)))))), (rA 0, .inl (cI, 40, .inl (S_rows 0))), (rA 1, .inl (cI, 40, .inl (S_rows 1))), (rA 2, .inl (cI, 40, .inl (S_rows 2))), (rA 3, .inl (cI, 40, .inl (S_rows 3))), (rA 4, .inl (cI, 40, .inl (S_rows 4))), (rA 5, .inl (cI, 40, .inl (S_rows 5))), (rA 6, .inl (cI, 40, .inl (S_rows 6))), (rA 7, .inl (cI, 40, .inl (S_rows 7)))] : va_W).set (3 + j1) (rA j1, .inl (cI, 40, .inl g7)) = [(aS, .inr (4, [.ref aS_lanes, .ref aS_sizes, .ref aS_items])), (aS_lanes, .inl (cI, 8, .inl S_lanes)), (aS_items, .inl (cA, 8, .inr (.inr (.inr (.inr (rwA rA)))))), (rA 0, .inl (cI, 40, .inl (S_rows_11 0))), (rA 1, .inl (cI, 40, .inl (S_rows_11 1))), (rA 2, .inl (cI, 40, .inl (S_rows_11 2))), (rA 3, .inl (cI, 40, .inl (S_rows_11 3))), (rA 4, .inl (cI, 40, .inl (S_rows_11 4))), (rA 5, .inl (cI, 40, .inl (S_rows_11 5))), (rA 6, .inl (cI, 40, .inl (S_rows_11 6))), (rA 7, .inl (cI, 40, .inl (S_rows_11 7)))] := by rw [eS_rows_11]; match j1, hj1 with | 0, _ => rfl | 1, _ => rfl | 2, _ => rfl | 3, _ => rfl | 4, _ => rfl | 5, _ => rfl | 6, _ => rfl | 7, _ => rfl | n + 8, hq => exact absurd hq (by omega)
  refine ka_ist (w1 := [(aS, .inr (4, [.ref aS_lanes, .ref aS_sizes, .ref aS_items])), (aS_lanes, .inl (cI, 8, .inl S_lanes)), (aS_items, .inl (cA, 8, .inr (.inr (.inr (.inr (rwA rA)))))), (rA 0, .inl (cI, 40, .inl (S_rows_11 0))), (rA 1, .inl (cI, 40, .inl (S_rows_11 1))), (rA 2, .inl (cI, 40, .inl (S_rows_11 2))), (rA 3, .inl (cI, 40, .inl (S_rows_11 3))), (rA 4, .inl (cI, 40, .inl (S_rows_11 4))), (rA 5, .inl (cI, 40, .inl (S_rows_11 5))), (rA 6, .inl (cI, 40, .inl (S_rows_11 6))), (rA 7, .inl (cI, 40, .inl (S_rows_11 7)))]) hx hb hK hP hD hS (3 + j1) 0 eg7 hw9 rfl hn8 dX4_put_17 hs10 (fun H locs hP hD hS => ?_)
  refine lv_aload_n hx hb dX4_put_18 rfl (lv_at hl 0 rfl) ?_
  refine ka_get (v := .ref aS_items) (C := RX4) (T := TX4) (Nf := 3) (ref := "BeepNet$Sheets") hx hb hts hiX4 hown hK hP 0 rfl rfl 2 (by decide) k_0 rfl rfl dX4_put_19 ?_
  refine lv_iload_n hx hb dX4_put_22 rfl (lv_at hl 1 rfl) ?_
  obtain ⟨j12, ej12, hn13, hj12, h⟩ := rwx_s h
  refine ka_ald hx hb hK hP 2 3 ej12 rfl rfl hn13 hj12 dX4_put_23 ?_
  refine lv_iload_n hx hb dX4_put_24 rfl (lv_at hl 2 rfl) ?_
  obtain ⟨v14, ev14, hn15, h⟩ := ldx_s h
  have hw16 : ([(aS, .inr (4, [.ref aS_lanes, .ref aS_sizes, .ref aS_items])), (aS_lanes, .inl (cI, 8, .inl S_lanes)), (aS_items, .inl (cA, 8, .inr (.inr (.inr (.inr (rwA rA)))))), (rA 0, .inl (cI, 40, .inl (S_rows_11 0))), (rA 1, .inl (cI, 40, .inl (S_rows_11 1))), (rA 2, .inl (cI, 40, .inl (S_rows_11 2))), (rA 3, .inl (cI, 40, .inl (S_rows_11 3))), (rA 4, .inl (cI, 40, .inl (S_rows_11 4))), (rA 5, .inl (cI, 40, .inl (S_rows_11 5))), (rA 6, .inl (cI, 40, .inl (S_rows_11 6))), (rA 7, .inl (cI, 40, .inl (S_rows_11 7)))] : va_W)[3 + j12]? = some (rA j12, .inl (cI, 40, .inl (S_rows_11 j12))) := by match j12, hj12 with | 0, _ => rfl | 1, _ => rfl | 2, _ => rfl | 3, _ => rfl | 4, _ => rfl | 5, _ => rfl | 6, _ => rfl | 7, _ => rfl | n + 8, hq => exact absurd hq (by omega)
  refine ka_ild hx hb hK hP (3 + j12) 0 ev14 hw16 rfl hn15 dX4_put_25 ?_
  obtain ⟨rfl, rfl⟩ := sj2 h
  exact hret _ _ _ _ _ rfl rfl hP hD hS dX4_put_26
set_option maxHeartbeats 4000000 in
set_option maxRecDepth 100000 in
theorem c_X4_move (l : Launch) (dC : Nat → ClassId) (dI : Nat → Nat → Nat) (cI cJ cZ cA : ClassId) (aS aS_lanes aS_sizes aS_items : Nat) (rA : Nat → Nat) (S_rows : Nat → Nat → Int32) (p0 : Int32) (p1 : Int32) (p2 : Int32) (p3 : Int32) (p4 : Int32) (S_rows_z : Nat → Nat → Int32) (h : fX4_move S_rows p0 p1 p2 p3 p4 = some S_rows_z) : Ctv l yX4_move wsX4_move rmX4_move (dC, dI) (tyL cI cJ cZ cA) [(aS, .inr (4, [.ref aS_lanes, .ref aS_sizes, .ref aS_items])), (aS_items, .inl (cA, 8, .inr (.inr (.inr (.inr (rwA rA)))))), (rA 0, .inl (cI, 40, .inl (S_rows 0))), (rA 1, .inl (cI, 40, .inl (S_rows 1))), (rA 2, .inl (cI, 40, .inl (S_rows 2))), (rA 3, .inl (cI, 40, .inl (S_rows 3))), (rA 4, .inl (cI, 40, .inl (S_rows 4))), (rA 5, .inl (cI, 40, .inl (S_rows 5))), (rA 6, .inl (cI, 40, .inl (S_rows 6))), (rA 7, .inl (cI, 40, .inl (S_rows 7)))] [(aS, .inr (4, [.ref aS_lanes, .ref aS_sizes, .ref aS_items])), (aS_items, .inl (cA, 8, .inr (.inr (.inr (.inr (rwA rA)))))), (rA 0, .inl (cI, 40, .inl (S_rows_z 0))), (rA 1, .inl (cI, 40, .inl (S_rows_z 1))), (rA 2, .inl (cI, 40, .inl (S_rows_z 2))), (rA 3, .inl (cI, 40, .inl (S_rows_z 3))), (rA 4, .inl (cI, 40, .inl (S_rows_z 4))), (rA 5, .inl (cI, 40, .inl (S_rows_z 5))), (rA 6, .inl (cI, 40, .inl (S_rows_z 6))), (rA 7, .inl (cI, 40, .inl (S_rows_z 7)))] [.ref aS, .int p0, .int p1, .int p2, .int p3, .int p4] := by
  refine ct_void (cc := cX4_move) (maxL := 6) (by decide) rfl (Nat.le_of_ble_eq_true rfl) ?_
  intro p e s m args below meth c A Q ls hx hb hml hown hts hA hK hP hD hS hl hret
  have hl : lv_has ls 6 [(0, .ref aS), (1, .int p0), (2, .int p1), (3, .int p2), (4, .int p3), (5, .int p4)] := hl
  have k_0 := hts (.fieldLink RX4 20 "BeepNet$Sheets" "items" "[[I") (by decide +kernel)
  have k_1 := hts (.methodLink RX4 41 arraycopyName) (by decide +kernel)
  have k_2 := hts (.native arraycopyName) (by decide +kernel)
  have k_3 := hts (.static arraycopyName) (by decide +kernel)
  have k_4 := hts (.initialized "java/lang/System") (by decide +kernel)
  have hiX4 : ∀ w ∈ u_ws RX4 TX4 3, w ∈ wsX4_move := fun w hw => List.mem_cons_of_mem _ (List.mem_append_right _ hw)
  unfold fX4_move at h
  refine lv_aload_n hx hb dX4_move_0 rfl (lv_at hl 0 rfl) ?_
  refine ka_get (v := .ref aS_items) (C := RX4) (T := TX4) (Nf := 3) (ref := "BeepNet$Sheets") hx hb hts hiX4 hown hK hP 0 rfl rfl 2 (by decide) k_0 rfl rfl dX4_move_1 ?_
  refine lv_iload_n hx hb dX4_move_4 rfl (lv_at hl 1 rfl) ?_
  obtain ⟨j1, ej1, hn2, hj1, h⟩ := rwx_s h
  refine ka_ald hx hb hK hP 1 3 ej1 rfl rfl hn2 hj1 dX4_move_5 ?_
  refine lv_iload_n hx hb dX4_move_6 rfl (lv_at hl 2 rfl) ?_
  refine lv_aload_n hx hb dX4_move_7 rfl (lv_at hl 0 rfl) ?_
  refine ka_get (v := .ref aS_items) (C := RX4) (T := TX4) (Nf := 3) (ref := "BeepNet$Sheets") hx hb hts hiX4 hown hK hP 0 rfl rfl 2 (by decide) k_0 rfl rfl dX4_move_8 ?_
  refine lv_iload_n hx hb dX4_move_11 rfl (lv_at hl 3 rfl) ?_
  obtain ⟨j3, ej3, hn4, hj3, h⟩ := rwx_s h
  refine ka_ald hx hb hK hP 1 3 ej3 rfl rfl hn4 hj3 dX4_move_12 ?_
  refine lv_iload hx hb dX4_move_13 (lv_at hl 4 rfl) ?_
  refine lv_iload hx hb dX4_move_15 (lv_at hl 5 rfl) ?_
  obtain ⟨g5, eg5, hn6, h⟩ := cpx_s h
  obtain ⟨S_rows_7, eS_rows_7, h⟩ := bnd_s h
  have hw8 : ([(aS, .inr (4, [.ref aS_lanes, .ref aS_sizes, .ref aS_items])), (aS_items, .inl (cA, 8, .inr (.inr (.inr (.inr (rwA rA)))))), (rA 0, .inl (cI, 40, .inl (S_rows 0))), (rA 1, .inl (cI, 40, .inl (S_rows 1))), (rA 2, .inl (cI, 40, .inl (S_rows 2))), (rA 3, .inl (cI, 40, .inl (S_rows 3))), (rA 4, .inl (cI, 40, .inl (S_rows 4))), (rA 5, .inl (cI, 40, .inl (S_rows 5))), (rA 6, .inl (cI, 40, .inl (S_rows 6))), (rA 7, .inl (cI, 40, .inl (S_rows 7)))] : va_W)[2 + j1]? = some (rA j1, .inl (cI, 40, .inl (S_rows j1))) := by match j1, hj1 with | 0, _ => rfl | 1, _ => rfl | 2, _ => rfl | 3, _ => rfl | 4, _ => rfl | 5, _ => rfl | 6, _ => rfl | 7, _ => rfl | n + 8, hq => exact absurd hq (by omega)
  have hw9 : ([(aS, .inr (4, [.ref aS_lanes, .ref aS_sizes, .ref aS_items])), (aS_items, .inl (cA, 8, .inr (.inr (.inr (.inr (rwA rA)))))), (rA 0, .inl (cI, 40, .inl (S_rows 0))), (rA 1, .inl (cI, 40, .inl (S_rows 1))), (rA 2, .inl (cI, 40, .inl (S_rows 2))), (rA 3, .inl (cI, 40, .inl (S_rows 3))), (rA 4, .inl (cI, 40, .inl (S_rows 4))), (rA 5, .inl (cI, 40, .inl (S_rows 5))), (rA 6, .inl (cI, 40, .inl (S_rows 6))), (rA 7, .inl (cI, 40, .inl (S_rows 7)))] : va_W)[2 + j3]? = some (rA j3, .inl (cI, 40, .inl (S_rows j3))) := by match j3, hj3 with | 0, _ => rfl | 1, _ => rfl | 2, _ => rfl | 3, _ => rfl | 4, _ => rfl | 5, _ => rfl | 6, _ => rfl | 7, _ => rfl | n + 8, hq => exact absurd hq (by omega)
  have hs10 : ([(aS, .inr (4, [.ref aS_lanes, .ref aS_sizes, .ref aS_items])), (aS_items, .inl (cA, 8, .inr (.inr (.inr (.inr (rwA rA)))))), (rA 0, .inl (cI, 40, .inl (S_rows 0))), (rA 1, .inl (cI, 40, .inl (S_rows 1))), (rA 2, .inl (cI, 40, .inl (S_rows 2))), (rA 3, .inl (cI, 40, .inl (S_rows 3))), (rA 4, .inl (cI, 40, .inl (S_rows 4))), (rA 5, .inl (cI, 40, .inl (S_rows 5))), (rA 6, .inl (cI, 40, .inl (S_rows 6))), (rA 7, .inl (cI, 40, .inl (S_rows 7)))] : va_W).set (2 + j3) (rA j3, .inl (cI, 40, .inl g5)) = [(aS, .inr (4, [.ref aS_lanes, .ref aS_sizes, .ref aS_items])), (aS_items, .inl (cA, 8, .inr (.inr (.inr (.inr (rwA rA)))))), (rA 0, .inl (cI, 40, .inl (S_rows_7 0))), (rA 1, .inl (cI, 40, .inl (S_rows_7 1))), (rA 2, .inl (cI, 40, .inl (S_rows_7 2))), (rA 3, .inl (cI, 40, .inl (S_rows_7 3))), (rA 4, .inl (cI, 40, .inl (S_rows_7 4))), (rA 5, .inl (cI, 40, .inl (S_rows_7 5))), (rA 6, .inl (cI, 40, .inl (S_rows_7 6))), (rA 7, .inl (cI, 40, .inl (S_rows_7 7)))] := by rw [eS_rows_7]; match j3, hj3 with | 0, _ => rfl | 1, _ => rfl | 2, _ => rfl | 3, _ => rfl | 4, _ => rfl | 5, _ => rfl | 6, _ => rfl | 7, _ => rfl | n + 8, hq => exact absurd hq (by omega)
  refine va_copyi hx hb (by rw [hml]; exact hl.1.symm) hown k_1 k_2 k_3 k_4 hK hP hD hS (2 + j1) (2 + j3) 0 0 hw8 hw9 rfl rfl rfl hn6.1 hn6.2.1 hn6.2.2.1 hn6.2.2.2.1 hn6.2.2.2.2 (fun _ _ => rfl) (Nat.le_of_ble_eq_true rfl) (Nat.le_of_ble_eq_true rfl) dX4_move_17 (fun H locs hP hD hS => ?_)
  rw [← eg5, hs10] at hP hD
  obtain rfl := sj1 h
  exact hret _ _ _ _ hP hD hS dX4_move_20
set_option maxHeartbeats 4000000 in
set_option maxRecDepth 100000 in
theorem c_X4_picksOne (l : Launch) (dC : Nat → ClassId) (dI : Nat → Nat → Nat) (cI cJ cZ cA : ClassId) (aS aS_lanes aS_sizes aS_items : Nat) (rA : Nat → Nat) (S_rows : Nat → Nat → Int32) (p0 : Int32) (p1 : Int32) (p2 : Int32) (p3 : Int32) (rr : Int32) (h : fX4_picksOne S_rows p0 p1 p2 p3 = some rr) : Cti l yX4_picksOne wsX4_picksOne rmX4_picksOne (dC, dI) (tyL cI cJ cZ cA) [(aS, .inr (4, [.ref aS_lanes, .ref aS_sizes, .ref aS_items])), (aS_items, .inl (cA, 8, .inr (.inr (.inr (.inr (rwA rA)))))), (rA 0, .inl (cI, 40, .inl (S_rows 0))), (rA 1, .inl (cI, 40, .inl (S_rows 1))), (rA 2, .inl (cI, 40, .inl (S_rows 2))), (rA 3, .inl (cI, 40, .inl (S_rows 3))), (rA 4, .inl (cI, 40, .inl (S_rows 4))), (rA 5, .inl (cI, 40, .inl (S_rows 5))), (rA 6, .inl (cI, 40, .inl (S_rows 6))), (rA 7, .inl (cI, 40, .inl (S_rows 7)))] [(aS, .inr (4, [.ref aS_lanes, .ref aS_sizes, .ref aS_items])), (aS_items, .inl (cA, 8, .inr (.inr (.inr (.inr (rwA rA)))))), (rA 0, .inl (cI, 40, .inl (S_rows 0))), (rA 1, .inl (cI, 40, .inl (S_rows 1))), (rA 2, .inl (cI, 40, .inl (S_rows 2))), (rA 3, .inl (cI, 40, .inl (S_rows 3))), (rA 4, .inl (cI, 40, .inl (S_rows 4))), (rA 5, .inl (cI, 40, .inl (S_rows 5))), (rA 6, .inl (cI, 40, .inl (S_rows 6))), (rA 7, .inl (cI, 40, .inl (S_rows 7)))] [.ref aS, .int p0, .int p1, .int p2, .int p3] rr := by
  refine ct_int (ty := .boolean) (cc := cX4_picksOne) (maxL := 6) (by decide) rfl (Nat.le_of_ble_eq_true rfl) ?_
  intro p e s m args below meth c A Q ls hx hb hml hown hts hA hK hP hD hS hl hret
  have hl : lv_has ls 6 [(0, .ref aS), (1, .int p0), (2, .int p1), (3, .int p2), (4, .int p3)] := hl
  have k_0 := hts (.fieldLink RX4 20 "BeepNet$Sheets" "items" "[[I") (by decide +kernel)
  have hiX4 : ∀ w ∈ u_ws RX4 TX4 3, w ∈ wsX4_picksOne := fun w hw => List.mem_cons_of_mem _ (List.mem_append_right _ hw)
  have hC3 : ∀ (n : Nat) (x1 : Int32) (x2 : Int32) (x3 : Int32) (x4 : Int32) (x5 : Int32) (H : Heap) (locs : List Loc) (ls : Array Slot), fX4_picksOne_c3 S_rows n x1 x2 x3 x4 x5 = some rr → va_P (dC, dI) vwCl [(aS, .inr (4, [.ref aS_lanes, .ref aS_sizes, .ref aS_items])), (aS_items, .inl (cA, 8, .inr (.inr (.inr (.inr (rwA rA)))))), (rA 0, .inl (cI, 40, .inl (S_rows 0))), (rA 1, .inl (cI, 40, .inl (S_rows 1))), (rA 2, .inl (cI, 40, .inl (S_rows 2))), (rA 3, .inl (cI, 40, .inl (S_rows 3))), (rA 4, .inl (cI, 40, .inl (S_rows 4))), (rA 5, .inl (cI, 40, .inl (S_rows 5))), (rA 6, .inl (cI, 40, .inl (S_rows 6))), (rA 7, .inl (cI, 40, .inl (S_rows 7)))] H → va_D A [(aS, .inr (4, [.ref aS_lanes, .ref aS_sizes, .ref aS_items])), (aS_items, .inl (cA, 8, .inr (.inr (.inr (.inr (rwA rA)))))), (rA 0, .inl (cI, 40, .inl (S_rows 0))), (rA 1, .inl (cI, 40, .inl (S_rows 1))), (rA 2, .inl (cI, 40, .inl (S_rows 2))), (rA 3, .inl (cI, 40, .inl (S_rows 3))), (rA 4, .inl (cI, 40, .inl (S_rows 4))), (rA 5, .inl (cI, 40, .inl (S_rows 5))), (rA 6, .inl (cI, 40, .inl (S_rows 6))), (rA 7, .inl (cI, 40, .inl (S_rows 7)))] → va_S A s.heap H locs → lv_has ls 6 [(0, .ref aS), (1, .int x1), (2, .int x2), (3, .int x3), (4, .int x4), (5, .int x5)] → W p l e rmX4_picksOne s m args below meth c H locs 0 0 Q (F0 m 3 ls []) := by
    intro n
    induction n with
    | zero => intro x1 x2 x3 x4 x5 H locs ls h; rw [fX4_picksOne_c3] at h; cases h
    | succ n3 ih3 =>
      intro x1 x2 x3 x4 x5 H locs ls h hP hD hS hl
      rw [fX4_picksOne_c3] at h
      refine lv_iload hx hb dX4_picksOne_3 (lv_at hl 5 rfl) ?_
      refine lv_iload_n hx hb dX4_picksOne_5 rfl (lv_at hl 2 rfl) ?_
      refine lv_iload_n hx hb dX4_picksOne_6 rfl (lv_at hl 3 rfl) ?_
      refine lv_iadd hx hb dX4_picksOne_7 ?_
      refine lv_icmp_ge (tgt := 38) hx hb dX4_picksOne_8 (by decide) (fun c401 => ?_) (fun c401 => ?_)
      · have h := ift c401 h
        refine lv_iconst (v := 0) hx hb dX4_picksOne_38 (by decide) ?_
        obtain rfl := sj1 h
        exact hret _ _ _ _ _ rfl rfl hP hD hS dX4_picksOne_39
      · have h := ifn c401 h
        refine lv_aload_n hx hb dX4_picksOne_11 rfl (lv_at hl 0 rfl) ?_
        refine ka_get (v := .ref aS_items) (C := RX4) (T := TX4) (Nf := 3) (ref := "BeepNet$Sheets") hx hb hts hiX4 hown hK hP 0 rfl rfl 2 (by decide) k_0 rfl rfl dX4_picksOne_12 ?_
        refine lv_iload_n hx hb dX4_picksOne_15 rfl (lv_at hl 1 rfl) ?_
        obtain ⟨j402, ej402, hn403, hj402, h⟩ := rwx_s h
        refine ka_ald hx hb hK hP 1 3 ej402 rfl rfl hn403 hj402 dX4_picksOne_16 ?_
        refine lv_iload hx hb dX4_picksOne_17 (lv_at hl 5 rfl) ?_
        obtain ⟨v404, ev404, hn405, h⟩ := ldx_s h
        have hw406 : ([(aS, .inr (4, [.ref aS_lanes, .ref aS_sizes, .ref aS_items])), (aS_items, .inl (cA, 8, .inr (.inr (.inr (.inr (rwA rA)))))), (rA 0, .inl (cI, 40, .inl (S_rows 0))), (rA 1, .inl (cI, 40, .inl (S_rows 1))), (rA 2, .inl (cI, 40, .inl (S_rows 2))), (rA 3, .inl (cI, 40, .inl (S_rows 3))), (rA 4, .inl (cI, 40, .inl (S_rows 4))), (rA 5, .inl (cI, 40, .inl (S_rows 5))), (rA 6, .inl (cI, 40, .inl (S_rows 6))), (rA 7, .inl (cI, 40, .inl (S_rows 7)))] : va_W)[2 + j402]? = some (rA j402, .inl (cI, 40, .inl (S_rows j402))) := by match j402, hj402 with | 0, _ => rfl | 1, _ => rfl | 2, _ => rfl | 3, _ => rfl | 4, _ => rfl | 5, _ => rfl | 6, _ => rfl | 7, _ => rfl | n + 8, hq => exact absurd hq (by omega)
        refine ka_ild hx hb hK hP (2 + j402) 0 ev404 hw406 rfl hn405 dX4_picksOne_19 ?_
        refine lv_iload hx hb dX4_picksOne_20 (lv_at hl 4 rfl) ?_
        refine lv_iand hx hb dX4_picksOne_22 ?_
        obtain ⟨r407, e408, h⟩ := bd1_s h
        refine kc_si (rest := []) (wr := [(aS, .inr (4, [.ref aS_lanes, .ref aS_sizes, .ref aS_items])), (aS_items, .inl (cA, 8, .inr (.inr (.inr (.inr (rwA rA)))))), (rA 0, .inl (cI, 40, .inl (S_rows 0))), (rA 1, .inl (cI, 40, .inl (S_rows 1))), (rA 2, .inl (cI, 40, .inl (S_rows 2))), (rA 3, .inl (cI, 40, .inl (S_rows 3))), (rA 4, .inl (cI, 40, .inl (S_rows 4))), (rA 5, .inl (cI, 40, .inl (S_rows 5))), (rA 6, .inl (cI, 40, .inl (S_rows 6))), (rA 7, .inl (cI, 40, .inl (S_rows 7)))]) (wF := [(aS, .inr (4, [.ref aS_lanes, .ref aS_sizes, .ref aS_items])), (aS_items, .inl (cA, 8, .inr (.inr (.inr (.inr (rwA rA)))))), (rA 0, .inl (cI, 40, .inl (S_rows 0))), (rA 1, .inl (cI, 40, .inl (S_rows 1))), (rA 2, .inl (cI, 40, .inl (S_rows 2))), (rA 3, .inl (cI, 40, .inl (S_rows 3))), (rA 4, .inl (cI, 40, .inl (S_rows 4))), (rA 5, .inl (cI, 40, .inl (S_rows 5))), (rA 6, .inl (cI, 40, .inl (S_rows 6))), (rA 7, .inl (cI, 40, .inl (S_rows 7)))]) ⟨hx, hb, hml, hown, hts⟩ (c_J6_bitCount_0f7a4 l dC dI cI cJ cZ cA (v404 &&& x4) r407 e408) (va_cwS 1 hts gX4_picksOne_J6_bitCount_0f7a4 rfl rfl rfl (by decide +kernel) ⟨Nat.le_of_ble_eq_true rfl, Nat.le_of_ble_eq_true rfl⟩) hK hP hD hS hA [] [0, 1, 2, 3, 4, 5, 6, 7, 8, 9] [0, 1, 2, 3, 4, 5, 6, 7, 8, 9] rfl rfl rfl rfl (by decide) rfl rfl rfl hl.1 rfl (Nat.le_of_ble_eq_true rfl) dX4_picksOne_23 ⟨Nat.zero_le _, Nat.zero_le _⟩ (fun H locs hP hD hS => ?_)
        refine lv_iconst (v := 1) hx hb dX4_picksOne_26 (by decide) ?_
        refine lv_icmp_ne (tgt := 32) hx hb dX4_picksOne_27 (by decide) (fun c409 => ?_) (fun c409 => ?_)
        · have h := ifn c409 h
          refine lv_iinc (v := x5 + 1) (lv' := [(5, .int (x5 + 1)), (0, .ref aS), (1, .int x1), (2, .int x2), (3, .int x3), (4, .int x4)]) hx hb dX4_picksOne_32 hl (k := 5) rfl rfl (by decide) rfl (fun ls hl => ?_)
          refine lv_goto (tgt := 3) hx hb dX4_picksOne_35 (by decide) ?_
          exact ih3 x1 x2 x3 x4 (x5 + 1) _ _ _ h hP hD hS (lv_sub hl [1, 2, 3, 4, 5, 0] rfl)
        · have h := ift c409 h
          refine lv_iconst (v := 1) hx hb dX4_picksOne_30 (by decide) ?_
          obtain rfl := sj1 h
          exact hret _ _ _ _ _ rfl rfl hP hD hS dX4_picksOne_31
  unfold fX4_picksOne at h
  refine lv_iload_n hx hb dX4_picksOne_0 rfl (lv_at hl 2 rfl) ?_
  refine lv_istore (lv' := [(5, .int p1), (0, .ref aS), (1, .int p0), (2, .int p1), (3, .int p2), (4, .int p3)]) hx hb dX4_picksOne_1 hl (by decide) rfl (fun ls hl => ?_)
  exact hC3 FU p0 p1 p2 p3 p1 _ _ _ h hP hD hS (lv_sub hl [1, 2, 3, 4, 5, 0] rfl)
