set_option maxHeartbeats 4000000 in
set_option maxRecDepth 100000 in
theorem c_X1_degree (l : Launch) (dC : Nat → ClassId) (dI : Nat → Nat → Nat) (cI cJ cZ cA : ClassId) (aN aN_neighbours : Nat) (N_posts : Int32) (N_neighbours : Nat → Int32) (p0 : Int32) (rr : Int32) (h : fX1_degree N_neighbours p0 = some rr) : Cti l yX1_degree wsX1_degree rmX1_degree (dC, dI) (tyL cI cJ cZ cA) [(aN, .inr (1, [.ref aN_neighbours, .int N_posts])), (aN_neighbours, .inl (cI, 8, .inl N_neighbours))] [(aN, .inr (1, [.ref aN_neighbours, .int N_posts])), (aN_neighbours, .inl (cI, 8, .inl N_neighbours))] [.ref aN, .int p0] rr := by
  refine ct_int (ty := .int) (cc := cX1_degree) (maxL := 2) (by decide) rfl (Nat.le_of_ble_eq_true rfl) ?_
  intro p e s m args below meth c A Q ls hx hb hml hown hts hA hK hP hD hS hl hret
  have hl : lv_has ls 2 [(0, .ref aN), (1, .int p0)] := hl
  have k_0 := hts (.fieldLink RX1 9 "BeepNet$Net" "neighbours" "[I") (by decide +kernel)
  have hiX1 : ∀ w ∈ u_ws RX1 TX1 2, w ∈ wsX1_degree := fun w hw => List.mem_cons_of_mem _ (List.mem_append_right _ hw)
  unfold fX1_degree at h
  refine lv_aload_n hx hb dX1_degree_0 rfl (lv_at hl 0 rfl) ?_
  refine ka_get (v := .ref aN_neighbours) (C := RX1) (T := TX1) (Nf := 2) (ref := "BeepNet$Net") hx hb hts hiX1 hown hK hP 0 rfl rfl 0 (by decide) k_0 rfl rfl dX1_degree_1 ?_
  refine lv_iload_n hx hb dX1_degree_4 rfl (lv_at hl 1 rfl) ?_
  obtain ⟨v1, ev1, hn2, h⟩ := ldx_s h
  refine ka_ild hx hb hK hP 1 0 ev1 rfl rfl hn2 dX1_degree_5 ?_
  obtain ⟨r3, e4, h⟩ := bd1_s h
  refine kc_si (rest := []) (wr := [(aN, .inr (1, [.ref aN_neighbours, .int N_posts])), (aN_neighbours, .inl (cI, 8, .inl N_neighbours))]) (wF := [(aN, .inr (1, [.ref aN_neighbours, .int N_posts])), (aN_neighbours, .inl (cI, 8, .inl N_neighbours))]) ⟨hx, hb, hml, hown, hts⟩ (c_J6_bitCount_0f7a4 l dC dI cI cJ cZ cA v1 r3 e4) (va_cwS 1 hts gX1_degree_J6_bitCount_0f7a4 rfl rfl rfl (by decide +kernel) ⟨Nat.le_of_ble_eq_true rfl, Nat.le_of_ble_eq_true rfl⟩) hK hP hD hS hA [] [0, 1] [0, 1] rfl rfl rfl rfl (by decide) rfl rfl rfl hl.1 rfl (Nat.le_of_ble_eq_true rfl) dX1_degree_6 ⟨Nat.zero_le _, Nat.zero_le _⟩ (fun H locs hP hD hS => ?_)
  obtain rfl := sj1 h
  exact hret _ _ _ _ _ rfl rfl hP hD hS dX1_degree_9
set_option maxHeartbeats 4000000 in
set_option maxRecDepth 100000 in
theorem c_X1_mostNeighbours (l : Launch) (dC : Nat → ClassId) (dI : Nat → Nat → Nat) (cI cJ cZ cA : ClassId) (aN aN_neighbours : Nat) (N_posts : Int32) (N_neighbours : Nat → Int32) (rr : Int32) (h : fX1_mostNeighbours N_posts N_neighbours = some rr) : Cti l yX1_mostNeighbours wsX1_mostNeighbours rmX1_mostNeighbours (dC, dI) (tyL cI cJ cZ cA) [(aN, .inr (1, [.ref aN_neighbours, .int N_posts])), (aN_neighbours, .inl (cI, 8, .inl N_neighbours))] [(aN, .inr (1, [.ref aN_neighbours, .int N_posts])), (aN_neighbours, .inl (cI, 8, .inl N_neighbours))] [.ref aN] rr := by
  refine ct_int (ty := .int) (cc := cX1_mostNeighbours) (maxL := 3) (by decide) rfl (Nat.le_of_ble_eq_true rfl) ?_
  intro p e s m args below meth c A Q ls hx hb hml hown hts hA hK hP hD hS hl hret
  have hl : lv_has ls 3 [(0, .ref aN)] := hl
  have k_0 := hts (.fieldLink RX1 15 "BeepNet$Net" "posts" "I") (by decide +kernel)
  have k_1 := hts (.methodLink RX1 43 Lib.Math.max.name) (by decide +kernel)
  have k_2 := hts (.static Lib.Math.max.name) (by decide +kernel)
  have k_3 := hts (.initialized "java/lang/Math") (by decide +kernel)
  have k_4 := hts (.code Lib.Math.max.name Lib.Math.max.code 2 (some .int)) (by decide +kernel)
  have hiX1 : ∀ w ∈ u_ws RX1 TX1 2, w ∈ wsX1_mostNeighbours := fun w hw => List.mem_cons_of_mem _ (List.mem_append_right _ hw)
  have hC4 : ∀ (n : Nat) (x1 : Int32) (x2 : Int32) (H : Heap) (locs : List Loc) (ls : Array Slot), fX1_mostNeighbours_c4 N_posts N_neighbours n x1 x2 = some rr → va_P (dC, dI) vwCl [(aN, .inr (1, [.ref aN_neighbours, .int N_posts])), (aN_neighbours, .inl (cI, 8, .inl N_neighbours))] H → va_D A [(aN, .inr (1, [.ref aN_neighbours, .int N_posts])), (aN_neighbours, .inl (cI, 8, .inl N_neighbours))] → va_S A s.heap H locs → lv_has ls 3 [(0, .ref aN), (1, .int x1), (2, .int x2)] → W p l e rmX1_mostNeighbours s m args below meth c H locs 0 0 Q (F0 m 4 ls []) := by
    intro n
    induction n with
    | zero => intro x1 x2 H locs ls h; rw [fX1_mostNeighbours_c4] at h; cases h
    | succ n4 ih4 =>
      intro x1 x2 H locs ls h hP hD hS hl
      rw [fX1_mostNeighbours_c4] at h
      refine lv_iload_n hx hb dX1_mostNeighbours_4 rfl (lv_at hl 2 rfl) ?_
      refine lv_aload_n hx hb dX1_mostNeighbours_5 rfl (lv_at hl 0 rfl) ?_
      refine ka_get (v := .int N_posts) (C := RX1) (T := TX1) (Nf := 2) (ref := "BeepNet$Net") hx hb hts hiX1 hown hK hP 0 rfl rfl 1 (by decide) k_0 rfl rfl dX1_mostNeighbours_6 ?_
      refine lv_icmp_ge (tgt := 28) hx hb dX1_mostNeighbours_9 (by decide) (fun c501 => ?_) (fun c501 => ?_)
      · have h := ift c501 h
        refine lv_iload_n hx hb dX1_mostNeighbours_28 rfl (lv_at hl 1 rfl) ?_
        obtain rfl := sj1 h
        exact hret _ _ _ _ _ rfl rfl hP hD hS dX1_mostNeighbours_29
      · have h := ifn c501 h
        refine lv_iload_n hx hb dX1_mostNeighbours_12 rfl (lv_at hl 1 rfl) ?_
        refine lv_aload_n hx hb dX1_mostNeighbours_13 rfl (lv_at hl 0 rfl) ?_
        refine lv_iload_n hx hb dX1_mostNeighbours_14 rfl (lv_at hl 2 rfl) ?_
        obtain ⟨r502, e503, h⟩ := bd1_s h
        refine kc_vi (rest := [.int x1]) (wr := []) (wF := [(aN, .inr (1, [.ref aN_neighbours, .int N_posts])), (aN_neighbours, .inl (cI, 8, .inl N_neighbours))]) ⟨hx, hb, hml, hown, hts⟩ (c_X1_degree l dC dI cI cJ cZ cA aN aN_neighbours N_posts N_neighbours x2 r502 e503) (cwV 1 hts gX1_mostNeighbours_X1_degree rfl rfl rfl (by decide +kernel) ⟨Nat.le_of_ble_eq_true rfl, Nat.le_of_ble_eq_true rfl⟩) hK hP hD hS hA [0, 1] [] [0, 1] 0 rfl rfl rfl rfl (by decide) rfl rfl rfl rfl rfl rfl hl.1 rfl (Nat.le_of_ble_eq_true rfl) dX1_mostNeighbours_15 ⟨Nat.zero_le _, Nat.zero_le _⟩ (fun H locs hP hD hS => ?_)
        obtain ⟨v504, ev504, h⟩ := bnd_s h
        refine va_mmax hx hb (by rw [hml]; exact hl.1.symm) hown k_1 k_2 k_3 k_4 (Nat.le_of_ble_eq_true rfl) (Nat.le_of_ble_eq_true rfl) (Nat.zero_le _) (Nat.zero_le _) dX1_mostNeighbours_18 ?_
        refine kn_i ev504 ?_
        refine lv_istore_n (lv' := [(1, .int v504), (0, .ref aN), (2, .int x2)]) hx hb dX1_mostNeighbours_21 rfl hl (by decide) rfl (fun ls hl => ?_)
        refine lv_iinc (v := x2 + 1) (lv' := [(2, .int (x2 + 1)), (1, .int v504), (0, .ref aN)]) hx hb dX1_mostNeighbours_22 hl (k := 2) rfl rfl (by decide) rfl (fun ls hl => ?_)
        refine lv_goto (tgt := 4) hx hb dX1_mostNeighbours_25 (by decide) ?_
        exact ih4 v504 (x2 + 1) _ _ _ h hP hD hS (lv_sub hl [2, 1, 0] rfl)
  unfold fX1_mostNeighbours at h
  refine lv_iconst (v := 0) hx hb dX1_mostNeighbours_0 (by decide) ?_
  refine lv_istore_n (lv' := [(1, .int 0), (0, .ref aN)]) hx hb dX1_mostNeighbours_1 rfl hl (by decide) rfl (fun ls hl => ?_)
  refine lv_iconst (v := 0) hx hb dX1_mostNeighbours_2 (by decide) ?_
  refine lv_istore_n (lv' := [(2, .int 0), (1, .int 0), (0, .ref aN)]) hx hb dX1_mostNeighbours_3 rfl hl (by decide) rfl (fun ls hl => ?_)
  exact hC4 FU 0 0 _ _ _ h hP hD hS (lv_sub hl [2, 1, 0] rfl)
set_option maxHeartbeats 4000000 in
set_option maxRecDepth 100000 in
theorem c_X1_kindOf (l : Launch) (dC : Nat → ClassId) (dI : Nat → Nat → Nat) (cI cJ cZ cA : ClassId) (aN aN_neighbours : Nat) (N_posts : Int32) (N_neighbours : Nat → Int32) (p0 : Int32) (rr : Int32) (h : fX1_kindOf N_posts N_neighbours p0 = some rr) : Cti l yX1_kindOf wsX1_kindOf rmX1_kindOf (dC, dI) (tyL cI cJ cZ cA) [(aN, .inr (1, [.ref aN_neighbours, .int N_posts])), (aN_neighbours, .inl (cI, 8, .inl N_neighbours))] [(aN, .inr (1, [.ref aN_neighbours, .int N_posts])), (aN_neighbours, .inl (cI, 8, .inl N_neighbours))] [.ref aN, .int p0] rr := by
  refine ct_int (ty := .int) (cc := cX1_kindOf) (maxL := 3) (by decide) rfl (Nat.le_of_ble_eq_true rfl) ?_
  intro p e s m args below meth c A Q ls hx hb hml hown hts hA hK hP hD hS hl hret
  have hl : lv_has ls 3 [(0, .ref aN), (1, .int p0)] := hl
  unfold fX1_kindOf at h
  refine lv_aload_n hx hb dX1_kindOf_0 rfl (lv_at hl 0 rfl) ?_
  refine lv_iload_n hx hb dX1_kindOf_1 rfl (lv_at hl 1 rfl) ?_
  obtain ⟨r1, e2, h⟩ := bd1_s h
  refine kc_vi (rest := []) (wr := []) (wF := [(aN, .inr (1, [.ref aN_neighbours, .int N_posts])), (aN_neighbours, .inl (cI, 8, .inl N_neighbours))]) ⟨hx, hb, hml, hown, hts⟩ (c_X1_degree l dC dI cI cJ cZ cA aN aN_neighbours N_posts N_neighbours p0 r1 e2) (cwV 1 hts gX1_kindOf_X1_degree rfl rfl rfl (by decide +kernel) ⟨Nat.le_of_ble_eq_true rfl, Nat.le_of_ble_eq_true rfl⟩) hK hP hD hS hA [0, 1] [] [0, 1] 0 rfl rfl rfl rfl (by decide) rfl rfl rfl rfl rfl rfl hl.1 rfl (Nat.le_of_ble_eq_true rfl) dX1_kindOf_2 ⟨Nat.zero_le _, Nat.zero_le _⟩ (fun H locs hP hD hS => ?_)
  refine lv_istore_n (lv' := [(2, .int r1), (0, .ref aN), (1, .int p0)]) hx hb dX1_kindOf_5 rfl hl (by decide) rfl (fun ls hl => ?_)
  refine lv_iload_n hx hb dX1_kindOf_6 rfl (lv_at hl 0 rfl) ?_
  refine lv_if_ne (tgt := 12) hx hb dX1_kindOf_7 (by decide) (fun c3 => ?_) (fun c3 => ?_)
  · have h := ifn c3 h
    refine lv_iload_n hx hb dX1_kindOf_12 rfl (lv_at hl 0 rfl) ?_
    refine lv_iconst (v := 1) hx hb dX1_kindOf_13 (by decide) ?_
    refine lv_icmp_ne (tgt := 19) hx hb dX1_kindOf_14 (by decide) (fun c4 => ?_) (fun c4 => ?_)
    · have h := ifn c4 h
      refine lv_iload_n hx hb dX1_kindOf_19 rfl (lv_at hl 0 rfl) ?_
      refine lv_aload_n hx hb dX1_kindOf_20 rfl (lv_at hl 1 rfl) ?_
      obtain ⟨r5, e6, h⟩ := bd1_s h
      refine kc_vi (rest := [.int r1]) (wr := []) (wF := [(aN, .inr (1, [.ref aN_neighbours, .int N_posts])), (aN_neighbours, .inl (cI, 8, .inl N_neighbours))]) ⟨hx, hb, hml, hown, hts⟩ (c_X1_mostNeighbours l dC dI cI cJ cZ cA aN aN_neighbours N_posts N_neighbours r5 e6) (cwV 0 hts gX1_kindOf_X1_mostNeighbours rfl rfl rfl (by decide +kernel) ⟨Nat.le_of_ble_eq_true rfl, Nat.le_of_ble_eq_true rfl⟩) hK hP hD hS hA [0, 1] [] [0, 1] 0 rfl rfl rfl rfl (by decide) rfl rfl rfl rfl rfl rfl hl.1 rfl (Nat.le_of_ble_eq_true rfl) dX1_kindOf_21 ⟨Nat.zero_le _, Nat.zero_le _⟩ (fun H locs hP hD hS => ?_)
      refine lv_icmp_ne (tgt := 31) hx hb dX1_kindOf_24 (by decide) (fun c7 => ?_) (fun c7 => ?_)
      · have h := ifn c7 h
        refine lv_iconst (v := 1) hx hb dX1_kindOf_31 (by decide) ?_
        obtain rfl := sj1 h
        exact hret _ _ _ _ _ rfl rfl hP hD hS dX1_kindOf_32
      · have h := ift c7 h
        refine lv_iconst (v := 3) hx hb dX1_kindOf_27 (by decide) ?_
        refine lv_goto (tgt := 32) hx hb dX1_kindOf_28 (by decide) ?_
        obtain rfl := sj1 h
        exact hret _ _ _ _ _ rfl rfl hP hD hS dX1_kindOf_32
    · have h := ift c4 h
      refine lv_iconst (v := 2) hx hb dX1_kindOf_17 (by decide) ?_
      obtain rfl := sj1 h
      exact hret _ _ _ _ _ rfl rfl hP hD hS dX1_kindOf_18
  · have h := ift c3 h
    refine lv_iconst (v := 4) hx hb dX1_kindOf_10 (by decide) ?_
    obtain rfl := sj1 h
    exact hret _ _ _ _ _ rfl rfl hP hD hS dX1_kindOf_11
set_option maxHeartbeats 4000000 in
set_option maxRecDepth 100000 in
theorem c_X1_oneStepFrom (l : Launch) (dC : Nat → ClassId) (dI : Nat → Nat → Nat) (cI cJ cZ cA : ClassId) (aN aN_neighbours : Nat) (N_posts : Int32) (N_neighbours : Nat → Int32) (p0 : Int32) (rr : Int32) (h : fX1_oneStepFrom N_posts N_neighbours p0 = some rr) : Cti l yX1_oneStepFrom wsX1_oneStepFrom rmX1_oneStepFrom (dC, dI) (tyL cI cJ cZ cA) [(aN, .inr (1, [.ref aN_neighbours, .int N_posts])), (aN_neighbours, .inl (cI, 8, .inl N_neighbours))] [(aN, .inr (1, [.ref aN_neighbours, .int N_posts])), (aN_neighbours, .inl (cI, 8, .inl N_neighbours))] [.ref aN, .int p0] rr := by
  refine ct_int (ty := .int) (cc := cX1_oneStepFrom) (maxL := 4) (by decide) rfl (Nat.le_of_ble_eq_true rfl) ?_
  intro p e s m args below meth c A Q ls hx hb hml hown hts hA hK hP hD hS hl hret
  have hl : lv_has ls 4 [(0, .ref aN), (1, .int p0)] := hl
  have k_0 := hts (.fieldLink RX1 15 "BeepNet$Net" "posts" "I") (by decide +kernel)
  have k_1 := hts (.fieldLink RX1 9 "BeepNet$Net" "neighbours" "[I") (by decide +kernel)
  have hiX1 : ∀ w ∈ u_ws RX1 TX1 2, w ∈ wsX1_oneStepFrom := fun w hw => List.mem_cons_of_mem _ (List.mem_append_right _ hw)
  have hC4 : ∀ (n : Nat) (x1 : Int32) (x2 : Int32) (x3 : Int32) (H : Heap) (locs : List Loc) (ls : Array Slot), fX1_oneStepFrom_c4 N_posts N_neighbours n x1 x2 x3 = some rr → va_P (dC, dI) vwCl [(aN, .inr (1, [.ref aN_neighbours, .int N_posts])), (aN_neighbours, .inl (cI, 8, .inl N_neighbours))] H → va_D A [(aN, .inr (1, [.ref aN_neighbours, .int N_posts])), (aN_neighbours, .inl (cI, 8, .inl N_neighbours))] → va_S A s.heap H locs → lv_has ls 4 [(0, .ref aN), (1, .int x1), (2, .int x2), (3, .int x3)] → W p l e rmX1_oneStepFrom s m args below meth c H locs 0 0 Q (F0 m 4 ls []) := by
    intro n
    induction n with
    | zero => intro x1 x2 x3 H locs ls h; rw [fX1_oneStepFrom_c4] at h; cases h
    | succ n4 ih4 =>
      intro x1 x2 x3 H locs ls h hP hD hS hl
      rw [fX1_oneStepFrom_c4] at h
      refine lv_iload_n hx hb dX1_oneStepFrom_4 rfl (lv_at hl 3 rfl) ?_
      refine lv_aload_n hx hb dX1_oneStepFrom_5 rfl (lv_at hl 0 rfl) ?_
      refine ka_get (v := .int N_posts) (C := RX1) (T := TX1) (Nf := 2) (ref := "BeepNet$Net") hx hb hts hiX1 hown hK hP 0 rfl rfl 1 (by decide) k_0 rfl rfl dX1_oneStepFrom_6 ?_
      refine lv_icmp_ge (tgt := 36) hx hb dX1_oneStepFrom_9 (by decide) (fun c501 => ?_) (fun c501 => ?_)
      · have h := ift c501 h
        refine lv_iload_n hx hb dX1_oneStepFrom_36 rfl (lv_at hl 2 rfl) ?_
        obtain rfl := sj1 h
        exact hret _ _ _ _ _ rfl rfl hP hD hS dX1_oneStepFrom_37
      · have h := ifn c501 h
        refine lv_iload_n hx hb dX1_oneStepFrom_12 rfl (lv_at hl 1 rfl) ?_
        refine lv_iload_n hx hb dX1_oneStepFrom_13 rfl (lv_at hl 3 rfl) ?_
        refine lv_ishr hx hb dX1_oneStepFrom_14 ?_
        refine lv_iconst (v := 1) hx hb dX1_oneStepFrom_15 (by decide) ?_
        refine lv_iand hx hb dX1_oneStepFrom_16 ?_
        refine lv_iconst (v := 1) hx hb dX1_oneStepFrom_17 (by decide) ?_
        refine lv_icmp_ne (tgt := 30) hx hb dX1_oneStepFrom_18 (by decide) (fun c502 => ?_) (fun c502 => ?_)
        · have h := ifn c502 h
          refine lv_iinc (v := x3 + 1) (lv' := [(3, .int (x3 + 1)), (0, .ref aN), (1, .int x1), (2, .int x2)]) hx hb dX1_oneStepFrom_30 hl (k := 3) rfl rfl (by decide) rfl (fun ls hl => ?_)
          refine lv_goto (tgt := 4) hx hb dX1_oneStepFrom_33 (by decide) ?_
          exact ih4 x1 x2 (x3 + 1) _ _ _ h hP hD hS (lv_sub hl [1, 2, 3, 0] rfl)
        · have h := ift c502 h
          refine lv_iload_n hx hb dX1_oneStepFrom_21 rfl (lv_at hl 2 rfl) ?_
          refine lv_aload_n hx hb dX1_oneStepFrom_22 rfl (lv_at hl 0 rfl) ?_
          refine ka_get (v := .ref aN_neighbours) (C := RX1) (T := TX1) (Nf := 2) (ref := "BeepNet$Net") hx hb hts hiX1 hown hK hP 0 rfl rfl 0 (by decide) k_1 rfl rfl dX1_oneStepFrom_23 ?_
          refine lv_iload_n hx hb dX1_oneStepFrom_26 rfl (lv_at hl 3 rfl) ?_
          obtain ⟨v503, ev503, hn504, h⟩ := ldx_s h
          refine ka_ild hx hb hK hP 1 0 ev503 rfl rfl hn504 dX1_oneStepFrom_27 ?_
          refine lv_ior hx hb dX1_oneStepFrom_28 ?_
          refine lv_istore_n (lv' := [(2, .int (x2 ||| v503)), (0, .ref aN), (1, .int x1), (3, .int x3)]) hx hb dX1_oneStepFrom_29 rfl hl (by decide) rfl (fun ls hl => ?_)
          refine lv_iinc (v := x3 + 1) (lv' := [(3, .int (x3 + 1)), (2, .int (x2 ||| v503)), (0, .ref aN), (1, .int x1)]) hx hb dX1_oneStepFrom_30 hl (k := 3) rfl rfl (by decide) rfl (fun ls hl => ?_)
          refine lv_goto (tgt := 4) hx hb dX1_oneStepFrom_33 (by decide) ?_
          exact ih4 x1 (x2 ||| v503) (x3 + 1) _ _ _ h hP hD hS (lv_sub hl [2, 3, 1, 0] rfl)
  unfold fX1_oneStepFrom at h
  refine lv_iload_n hx hb dX1_oneStepFrom_0 rfl (lv_at hl 1 rfl) ?_
  refine lv_istore_n (lv' := [(2, .int p0), (0, .ref aN), (1, .int p0)]) hx hb dX1_oneStepFrom_1 rfl hl (by decide) rfl (fun ls hl => ?_)
  refine lv_iconst (v := 0) hx hb dX1_oneStepFrom_2 (by decide) ?_
  refine lv_istore_n (lv' := [(3, .int 0), (2, .int p0), (0, .ref aN), (1, .int p0)]) hx hb dX1_oneStepFrom_3 rfl hl (by decide) rfl (fun ls hl => ?_)
  exact hC4 FU p0 p0 0 _ _ _ h hP hD hS (lv_sub hl [2, 3, 1, 0] rfl)
set_option maxHeartbeats 4000000 in
set_option maxRecDepth 100000 in
theorem c_X1_width (l : Launch) (dC : Nat → ClassId) (dI : Nat → Nat → Nat) (cI cJ cZ cA : ClassId) (aN aN_neighbours : Nat) (N_posts : Int32) (N_neighbours : Nat → Int32) (p0 : Int32) (rr : Int32) (h : fX1_width N_posts N_neighbours p0 = some rr) : Cti l yX1_width wsX1_width rmX1_width (dC, dI) (tyL cI cJ cZ cA) [(aN, .inr (1, [.ref aN_neighbours, .int N_posts])), (aN_neighbours, .inl (cI, 8, .inl N_neighbours))] [(aN, .inr (1, [.ref aN_neighbours, .int N_posts])), (aN_neighbours, .inl (cI, 8, .inl N_neighbours))] [.ref aN, .int p0] rr := by
  refine ct_int (ty := .int) (cc := cX1_width) (maxL := 6) (by decide) rfl (Nat.le_of_ble_eq_true rfl) ?_
  intro p e s m args below meth c A Q ls hx hb hml hown hts hA hK hP hD hS hl hret
  have hl : lv_has ls 6 [(0, .ref aN), (1, .int p0)] := hl
  have k_0 := hts (.fieldLink RX1 15 "BeepNet$Net" "posts" "I") (by decide +kernel)
  have hiX1 : ∀ w ∈ u_ws RX1 TX1 2, w ∈ wsX1_width := fun w hw => List.mem_cons_of_mem _ (List.mem_append_right _ hw)
  have hC9 : ∀ (n : Nat) (x2 : Int32) (x3 : Int32) (x4 : Int32) (H : Heap) (locs : List Loc) (ls : Array Slot), fX1_width_c9 N_posts N_neighbours n x2 x3 x4 = some rr → va_P (dC, dI) vwCl [(aN, .inr (1, [.ref aN_neighbours, .int N_posts])), (aN_neighbours, .inl (cI, 8, .inl N_neighbours))] H → va_D A [(aN, .inr (1, [.ref aN_neighbours, .int N_posts])), (aN_neighbours, .inl (cI, 8, .inl N_neighbours))] → va_S A s.heap H locs → lv_has ls 6 [(0, .ref aN), (2, .int x2), (3, .int x3), (4, .int x4)] → W p l e rmX1_width s m args below meth c H locs 0 0 Q (F0 m 9 ls []) := by
    intro n
    induction n with
    | zero => intro x2 x3 x4 H locs ls h; rw [fX1_width_c9] at h; cases h
    | succ n9 ih9 =>
      have hC37 : ∀ (x4 : Int32) (x5 : Int32) (t0 : Int32) (H : Heap) (locs : List Loc) (ls : Array Slot), fX1_width_c37 N_posts N_neighbours (fX1_width_c9 N_posts N_neighbours n9) x4 x5 t0 = some rr → va_P (dC, dI) vwCl [(aN, .inr (1, [.ref aN_neighbours, .int N_posts])), (aN_neighbours, .inl (cI, 8, .inl N_neighbours))] H → va_D A [(aN, .inr (1, [.ref aN_neighbours, .int N_posts])), (aN_neighbours, .inl (cI, 8, .inl N_neighbours))] → va_S A s.heap H locs → lv_has ls 6 [(0, .ref aN), (4, .int x4), (5, .int x5)] → W p l e rmX1_width s m args below meth c H locs 0 0 Q (F0 m 37 ls [.int t0]) := by
        intro x4 x5 t0 H locs ls h hP hD hS hl
        unfold fX1_width_c37 at h
        refine lv_istore_n (lv' := [(3, .int t0), (0, .ref aN), (4, .int x4), (5, .int x5)]) hx hb dX1_width_37 rfl hl (by decide) rfl (fun ls hl => ?_)
        refine lv_iload hx hb dX1_width_38 (lv_at hl 3 rfl) ?_
        refine lv_istore_n (lv' := [(2, .int x5), (3, .int t0), (0, .ref aN), (4, .int x4), (5, .int x5)]) hx hb dX1_width_40 rfl hl (by decide) rfl (fun ls hl => ?_)
        refine lv_iinc (v := x4 + 1) (lv' := [(4, .int (x4 + 1)), (2, .int x5), (3, .int t0), (0, .ref aN), (5, .int x5)]) hx hb dX1_width_41 hl (k := 3) rfl rfl (by decide) rfl (fun ls hl => ?_)
        refine lv_goto (tgt := 9) hx hb dX1_width_44 (by decide) ?_
        exact ih9 x5 t0 (x4 + 1) _ _ _ h hP hD hS (lv_sub hl [3, 1, 2, 0] rfl)
      intro x2 x3 x4 H locs ls h hP hD hS hl
      rw [fX1_width_c9] at h
      refine lv_iload hx hb dX1_width_9 (lv_at hl 3 rfl) ?_
      refine lv_aload_n hx hb dX1_width_11 rfl (lv_at hl 0 rfl) ?_
      refine ka_get (v := .int N_posts) (C := RX1) (T := TX1) (Nf := 2) (ref := "BeepNet$Net") hx hb hts hiX1 hown hK hP 0 rfl rfl 1 (by decide) k_0 rfl rfl dX1_width_12 ?_
      refine lv_icmp_ge (tgt := 47) hx hb dX1_width_15 (by decide) (fun c1001 => ?_) (fun c1001 => ?_)
      · have h := ift c1001 h
        refine lv_iload_n hx hb dX1_width_47 rfl (lv_at hl 2 rfl) ?_
        obtain rfl := sj1 h
        exact hret _ _ _ _ _ rfl rfl hP hD hS dX1_width_48
      · have h := ifn c1001 h
        refine lv_aload_n hx hb dX1_width_18 rfl (lv_at hl 0 rfl) ?_
        refine lv_iload_n hx hb dX1_width_19 rfl (lv_at hl 1 rfl) ?_
        obtain ⟨r1002, e1003, h⟩ := bd1_s h
        refine kc_vi (rest := []) (wr := []) (wF := [(aN, .inr (1, [.ref aN_neighbours, .int N_posts])), (aN_neighbours, .inl (cI, 8, .inl N_neighbours))]) ⟨hx, hb, hml, hown, hts⟩ (c_X1_oneStepFrom l dC dI cI cJ cZ cA aN aN_neighbours N_posts N_neighbours x2 r1002 e1003) (cwV 1 hts gX1_width_X1_oneStepFrom rfl rfl rfl (by decide +kernel) ⟨Nat.le_of_ble_eq_true rfl, Nat.le_of_ble_eq_true rfl⟩) hK hP hD hS hA [0, 1] [] [0, 1] 0 rfl rfl rfl rfl (by decide) rfl rfl rfl rfl rfl rfl hl.1 rfl (Nat.le_of_ble_eq_true rfl) dX1_width_20 ⟨Nat.zero_le _, Nat.zero_le _⟩ (fun H locs hP hD hS => ?_)
        refine lv_istore (lv' := [(5, .int r1002), (0, .ref aN), (2, .int x2), (3, .int x3), (4, .int x4)]) hx hb dX1_width_23 hl (by decide) rfl (fun ls hl => ?_)
        refine lv_iload hx hb dX1_width_25 (lv_at hl 0 rfl) ?_
        refine lv_iload_n hx hb dX1_width_27 rfl (lv_at hl 2 rfl) ?_
        refine lv_icmp_ne (tgt := 35) hx hb dX1_width_28 (by decide) (fun c1004 => ?_) (fun c1004 => ?_)
        · have h := ifn c1004 h
          refine lv_iload hx hb dX1_width_35 (lv_at hl 4 rfl) ?_
          exact hC37 x4 r1002 x4 _ _ _ h hP hD hS (lv_sub hl [1, 4, 0] rfl)
        · have h := ift c1004 h
          refine lv_iload_n hx hb dX1_width_31 rfl (lv_at hl 3 rfl) ?_
          refine lv_goto (tgt := 37) hx hb dX1_width_32 (by decide) ?_
          exact hC37 x4 r1002 x3 _ _ _ h hP hD hS (lv_sub hl [1, 4, 0] rfl)
  unfold fX1_width at h
  refine lv_iconst (v := 1) hx hb dX1_width_0 (by decide) ?_
  refine lv_iload_n hx hb dX1_width_1 rfl (lv_at hl 1 rfl) ?_
  refine lv_ishl hx hb dX1_width_2 ?_
  obtain ⟨v1, ev1, h⟩ := bnd_s h
  refine kn_i ev1 ?_
  refine lv_istore_n (lv' := [(2, .int v1), (0, .ref aN), (1, .int p0)]) hx hb dX1_width_3 rfl hl (by decide) rfl (fun ls hl => ?_)
  refine lv_iconst (v := 0) hx hb dX1_width_4 (by decide) ?_
  refine lv_istore_n (lv' := [(3, .int 0), (2, .int v1), (0, .ref aN), (1, .int p0)]) hx hb dX1_width_5 rfl hl (by decide) rfl (fun ls hl => ?_)
  refine lv_iconst (v := 1) hx hb dX1_width_6 (by decide) ?_
  refine lv_istore (lv' := [(4, .int 1), (3, .int 0), (2, .int v1), (0, .ref aN), (1, .int p0)]) hx hb dX1_width_7 hl (by decide) rfl (fun ls hl => ?_)
  exact hC9 FU v1 0 1 _ _ _ h hP hD hS (lv_sub hl [3, 2, 1, 0] rfl)
set_option maxHeartbeats 4000000 in
set_option maxRecDepth 100000 in
theorem c_X1_size (l : Launch) (dC : Nat → ClassId) (dI : Nat → Nat → Nat) (cI cJ cZ cA : ClassId) (aN aN_neighbours : Nat) (N_posts : Int32) (rr : Int32) (h : fX1_size N_posts = some rr) : Cti l yX1_size wsX1_size rmX1_size (dC, dI) (tyL cI cJ cZ cA) [(aN, .inr (1, [.ref aN_neighbours, .int N_posts]))] [(aN, .inr (1, [.ref aN_neighbours, .int N_posts]))] [.ref aN] rr := by
  refine ct_int (ty := .int) (cc := cX1_size) (maxL := 1) (by decide) rfl (Nat.le_of_ble_eq_true rfl) ?_
  intro p e s m args below meth c A Q ls hx hb hml hown hts hA hK hP hD hS hl hret
  have hl : lv_has ls 1 [(0, .ref aN)] := hl
  have k_0 := hts (.fieldLink RX1 15 "BeepNet$Net" "posts" "I") (by decide +kernel)
  have hiX1 : ∀ w ∈ u_ws RX1 TX1 2, w ∈ wsX1_size := fun w hw => List.mem_cons_of_mem _ (List.mem_append_right _ hw)
  unfold fX1_size at h
  refine lv_aload_n hx hb dX1_size_0 rfl (lv_at hl 0 rfl) ?_
  refine ka_get (v := .int N_posts) (C := RX1) (T := TX1) (Nf := 2) (ref := "BeepNet$Net") hx hb hts hiX1 hown hK hP 0 rfl rfl 1 (by decide) k_0 rfl rfl dX1_size_1 ?_
  obtain rfl := sj1 h
  exact hret _ _ _ _ _ rfl rfl hP hD hS dX1_size_4
set_option maxHeartbeats 4000000 in
set_option maxRecDepth 100000 in
theorem c_X1_isFull (l : Launch) (dC : Nat → ClassId) (dI : Nat → Nat → Nat) (cI cJ cZ cA : ClassId) (aN aN_neighbours : Nat) (N_posts : Int32) (rr : Int32) (h : fX1_isFull N_posts = some rr) : Cti l yX1_isFull wsX1_isFull rmX1_isFull (dC, dI) (tyL cI cJ cZ cA) [(aN, .inr (1, [.ref aN_neighbours, .int N_posts]))] [(aN, .inr (1, [.ref aN_neighbours, .int N_posts]))] [.ref aN] rr := by
  refine ct_int (ty := .boolean) (cc := cX1_isFull) (maxL := 1) (by decide) rfl (Nat.le_of_ble_eq_true rfl) ?_
  intro p e s m args below meth c A Q ls hx hb hml hown hts hA hK hP hD hS hl hret
  have hl : lv_has ls 1 [(0, .ref aN)] := hl
  have k_0 := hts (.fieldLink RX1 15 "BeepNet$Net" "posts" "I") (by decide +kernel)
  have hiX1 : ∀ w ∈ u_ws RX1 TX1 2, w ∈ wsX1_isFull := fun w hw => List.mem_cons_of_mem _ (List.mem_append_right _ hw)
  unfold fX1_isFull at h
  refine lv_aload_n hx hb dX1_isFull_0 rfl (lv_at hl 0 rfl) ?_
  refine ka_get (v := .int N_posts) (C := RX1) (T := TX1) (Nf := 2) (ref := "BeepNet$Net") hx hb hts hiX1 hown hK hP 0 rfl rfl 1 (by decide) k_0 rfl rfl dX1_isFull_1 ?_
  refine lv_bipush (v := 8) hx hb dX1_isFull_4 (by decide) ?_
  refine lv_icmp_lt (tgt := 13) hx hb dX1_isFull_6 (by decide) (fun c1 => ?_) (fun c1 => ?_)
  · have h := ift c1 h
    refine lv_iconst (v := 0) hx hb dX1_isFull_13 (by decide) ?_
    obtain rfl := sj1 h
    exact hret _ _ _ _ _ rfl rfl hP hD hS dX1_isFull_14
  · have h := ifn c1 h
    refine lv_iconst (v := 1) hx hb dX1_isFull_9 (by decide) ?_
    refine lv_goto (tgt := 14) hx hb dX1_isFull_10 (by decide) ?_
    obtain rfl := sj1 h
    exact hret _ _ _ _ _ rfl rfl hP hD hS dX1_isFull_14
set_option maxHeartbeats 4000000 in
set_option maxRecDepth 100000 in
theorem c_X1_add (l : Launch) (dC : Nat → ClassId) (dI : Nat → Nat → Nat) (cI cJ cZ cA : ClassId) (aN aN_neighbours : Nat) (N_posts : Int32) (rr : Int32) (N_posts_z : Int32) (h : fX1_add N_posts = some (rr, N_posts_z)) : Cti l yX1_add wsX1_add rmX1_add (dC, dI) (tyL cI cJ cZ cA) [(aN, .inr (1, [.ref aN_neighbours, .int N_posts]))] [(aN, .inr (1, [.ref aN_neighbours, .int N_posts_z]))] [.ref aN] rr := by
  refine ct_int (ty := .int) (cc := cX1_add) (maxL := 1) (by decide) rfl (Nat.le_of_ble_eq_true rfl) ?_
  intro p e s m args below meth c A Q ls hx hb hml hown hts hA hK hP hD hS hl hret
  have hl : lv_has ls 1 [(0, .ref aN)] := hl
  have k_0 := hts (.fieldLink RX1 15 "BeepNet$Net" "posts" "I") (by decide +kernel)
  have hiX1 : ∀ w ∈ u_ws RX1 TX1 2, w ∈ wsX1_add := fun w hw => List.mem_cons_of_mem _ (List.mem_append_right _ hw)
  unfold fX1_add at h
  refine lv_aload_n hx hb dX1_add_0 rfl (lv_at hl 0 rfl) ?_
  refine lv_dup hx hb dX1_add_1 rfl ?_
  refine ka_get (v := .int N_posts) (C := RX1) (T := TX1) (Nf := 2) (ref := "BeepNet$Net") hx hb hts hiX1 hown hK hP 0 rfl rfl 1 (by decide) k_0 rfl rfl dX1_add_2 ?_
  refine lv_iconst (v := 1) hx hb dX1_add_5 (by decide) ?_
  refine lv_iadd hx hb dX1_add_6 ?_
  refine ka_put (w1 := [(aN, .inr (1, [.ref aN_neighbours, .int (N_posts + (1 : Int32))]))]) (C := RX1) (T := TX1) (Nf := 2) (ref := "BeepNet$Net") hx hb hts hiX1 tyX1 tyX1_ok nmX1 hown hK hP hD hS 0 rfl rfl 1 (by decide) k_0 rfl rfl rfl (Nat.le_of_ble_eq_true rfl) dX1_add_7 rfl (fun H locs hP hD hS => ?_)
  refine lv_aload_n hx hb dX1_add_10 rfl (lv_at hl 0 rfl) ?_
  refine ka_get (v := .int (N_posts + (1 : Int32))) (C := RX1) (T := TX1) (Nf := 2) (ref := "BeepNet$Net") hx hb hts hiX1 hown hK hP 0 rfl rfl 1 (by decide) k_0 rfl rfl dX1_add_11 ?_
  refine lv_iconst (v := 1) hx hb dX1_add_14 (by decide) ?_
  refine lv_isub hx hb dX1_add_15 ?_
  obtain ⟨rfl, rfl⟩ := sj2 h
  exact hret _ _ _ _ _ rfl rfl hP hD hS dX1_add_16
set_option maxHeartbeats 4000000 in
set_option maxRecDepth 100000 in
theorem c_X1_hasPost (l : Launch) (dC : Nat → ClassId) (dI : Nat → Nat → Nat) (cI cJ cZ cA : ClassId) (aN aN_neighbours : Nat) (N_posts : Int32) (p0 : Int32) (rr : Int32) (h : fX1_hasPost N_posts p0 = some rr) : Cti l yX1_hasPost wsX1_hasPost rmX1_hasPost (dC, dI) (tyL cI cJ cZ cA) [(aN, .inr (1, [.ref aN_neighbours, .int N_posts]))] [(aN, .inr (1, [.ref aN_neighbours, .int N_posts]))] [.ref aN, .int p0] rr := by
  refine ct_int (ty := .boolean) (cc := cX1_hasPost) (maxL := 2) (by decide) rfl (Nat.le_of_ble_eq_true rfl) ?_
  intro p e s m args below meth c A Q ls hx hb hml hown hts hA hK hP hD hS hl hret
  have hl : lv_has ls 2 [(0, .ref aN), (1, .int p0)] := hl
  have k_0 := hts (.fieldLink RX1 15 "BeepNet$Net" "posts" "I") (by decide +kernel)
  have hiX1 : ∀ w ∈ u_ws RX1 TX1 2, w ∈ wsX1_hasPost := fun w hw => List.mem_cons_of_mem _ (List.mem_append_right _ hw)
  unfold fX1_hasPost at h
  refine lv_iload_n hx hb dX1_hasPost_0 rfl (lv_at hl 1 rfl) ?_
  refine lv_if_lt (tgt := 16) hx hb dX1_hasPost_1 (by decide) (fun c1 => ?_) (fun c1 => ?_)
  · have h := ift c1 h
    refine lv_iconst (v := 0) hx hb dX1_hasPost_16 (by decide) ?_
    obtain rfl := sj1 h
    exact hret _ _ _ _ _ rfl rfl hP hD hS dX1_hasPost_17
  · have h := ifn c1 h
    refine lv_iload_n hx hb dX1_hasPost_4 rfl (lv_at hl 1 rfl) ?_
    refine lv_aload_n hx hb dX1_hasPost_5 rfl (lv_at hl 0 rfl) ?_
    refine ka_get (v := .int N_posts) (C := RX1) (T := TX1) (Nf := 2) (ref := "BeepNet$Net") hx hb hts hiX1 hown hK hP 0 rfl rfl 1 (by decide) k_0 rfl rfl dX1_hasPost_6 ?_
    refine lv_icmp_ge (tgt := 16) hx hb dX1_hasPost_9 (by decide) (fun c2 => ?_) (fun c2 => ?_)
    · have h := ift c2 h
      refine lv_iconst (v := 0) hx hb dX1_hasPost_16 (by decide) ?_
      obtain rfl := sj1 h
      exact hret _ _ _ _ _ rfl rfl hP hD hS dX1_hasPost_17
    · have h := ifn c2 h
      refine lv_iconst (v := 1) hx hb dX1_hasPost_12 (by decide) ?_
      refine lv_goto (tgt := 17) hx hb dX1_hasPost_13 (by decide) ?_
      obtain rfl := sj1 h
      exact hret _ _ _ _ _ rfl rfl hP hD hS dX1_hasPost_17
set_option maxHeartbeats 4000000 in
set_option maxRecDepth 100000 in
theorem c_X1_allPosts (l : Launch) (dC : Nat → ClassId) (dI : Nat → Nat → Nat) (cI cJ cZ cA : ClassId) (aN aN_neighbours : Nat) (N_posts : Int32) (rr : Int32) (h : fX1_allPosts N_posts = some rr) : Cti l yX1_allPosts wsX1_allPosts rmX1_allPosts (dC, dI) (tyL cI cJ cZ cA) [(aN, .inr (1, [.ref aN_neighbours, .int N_posts]))] [(aN, .inr (1, [.ref aN_neighbours, .int N_posts]))] [.ref aN] rr := by
  refine ct_int (ty := .int) (cc := cX1_allPosts) (maxL := 1) (by decide) rfl (Nat.le_of_ble_eq_true rfl) ?_
  intro p e s m args below meth c A Q ls hx hb hml hown hts hA hK hP hD hS hl hret
  have hl : lv_has ls 1 [(0, .ref aN)] := hl
  have k_0 := hts (.fieldLink RX1 15 "BeepNet$Net" "posts" "I") (by decide +kernel)
  have hiX1 : ∀ w ∈ u_ws RX1 TX1 2, w ∈ wsX1_allPosts := fun w hw => List.mem_cons_of_mem _ (List.mem_append_right _ hw)
  unfold fX1_allPosts at h
  refine lv_iconst (v := 1) hx hb dX1_allPosts_0 (by decide) ?_
  refine lv_aload_n hx hb dX1_allPosts_1 rfl (lv_at hl 0 rfl) ?_
  refine ka_get (v := .int N_posts) (C := RX1) (T := TX1) (Nf := 2) (ref := "BeepNet$Net") hx hb hts hiX1 hown hK hP 0 rfl rfl 1 (by decide) k_0 rfl rfl dX1_allPosts_2 ?_
  refine lv_ishl hx hb dX1_allPosts_5 ?_
  refine lv_iconst (v := 1) hx hb dX1_allPosts_6 (by decide) ?_
  refine lv_isub hx hb dX1_allPosts_7 ?_
  obtain rfl := sj1 h
  exact hret _ _ _ _ _ rfl rfl hP hD hS dX1_allPosts_8
set_option maxHeartbeats 4000000 in
set_option maxRecDepth 100000 in
theorem c_X1_hasSet (l : Launch) (dC : Nat → ClassId) (dI : Nat → Nat → Nat) (cI cJ cZ cA : ClassId) (aN aN_neighbours : Nat) (N_posts : Int32) (p0 : Int32) (rr : Int32) (h : fX1_hasSet N_posts p0 = some rr) : Cti l yX1_hasSet wsX1_hasSet rmX1_hasSet (dC, dI) (tyL cI cJ cZ cA) [(aN, .inr (1, [.ref aN_neighbours, .int N_posts]))] [(aN, .inr (1, [.ref aN_neighbours, .int N_posts]))] [.ref aN, .int p0] rr := by
  refine ct_int (ty := .boolean) (cc := cX1_hasSet) (maxL := 2) (by decide) rfl (Nat.le_of_ble_eq_true rfl) ?_
  intro p e s m args below meth c A Q ls hx hb hml hown hts hA hK hP hD hS hl hret
  have hl : lv_has ls 2 [(0, .ref aN), (1, .int p0)] := hl
  unfold fX1_hasSet at h
  refine lv_iload_n hx hb dX1_hasSet_0 rfl (lv_at hl 1 rfl) ?_
  refine lv_aload_n hx hb dX1_hasSet_1 rfl (lv_at hl 0 rfl) ?_
  obtain ⟨r1, e2, h⟩ := bd1_s h
  refine kc_vi (rest := [.int p0]) (wr := []) (wF := [(aN, .inr (1, [.ref aN_neighbours, .int N_posts]))]) ⟨hx, hb, hml, hown, hts⟩ (c_X1_allPosts l dC dI cI cJ cZ cA aN aN_neighbours N_posts r1 e2) (cwV 0 hts gX1_hasSet_X1_allPosts rfl rfl rfl (by decide +kernel) ⟨Nat.le_of_ble_eq_true rfl, Nat.le_of_ble_eq_true rfl⟩) hK hP hD hS hA [0] [] [0] 0 rfl rfl rfl rfl (by decide) rfl rfl rfl rfl rfl rfl hl.1 rfl (Nat.le_of_ble_eq_true rfl) dX1_hasSet_2 ⟨Nat.zero_le _, Nat.zero_le _⟩ (fun H locs hP hD hS => ?_)
  refine lv_iconst (v := -1) hx hb dX1_hasSet_5 (by decide) ?_
  refine lv_ixor hx hb dX1_hasSet_6 ?_
  refine lv_iand hx hb dX1_hasSet_7 ?_
  refine lv_if_ne (tgt := 15) hx hb dX1_hasSet_8 (by decide) (fun c3 => ?_) (fun c3 => ?_)
  · have h := ifn c3 h
    refine lv_iconst (v := 0) hx hb dX1_hasSet_15 (by decide) ?_
    obtain rfl := sj1 h
    exact hret _ _ _ _ _ rfl rfl hP hD hS dX1_hasSet_16
  · have h := ift c3 h
    refine lv_iconst (v := 1) hx hb dX1_hasSet_11 (by decide) ?_
    refine lv_goto (tgt := 16) hx hb dX1_hasSet_12 (by decide) ?_
    obtain rfl := sj1 h
    exact hret _ _ _ _ _ rfl rfl hP hD hS dX1_hasSet_16
set_option maxHeartbeats 4000000 in
set_option maxRecDepth 100000 in
theorem c_X1_isLinked (l : Launch) (dC : Nat → ClassId) (dI : Nat → Nat → Nat) (cI cJ cZ cA : ClassId) (aN aN_neighbours : Nat) (N_posts : Int32) (N_neighbours : Nat → Int32) (p0 : Int32) (p1 : Int32) (rr : Int32) (h : fX1_isLinked N_neighbours p0 p1 = some rr) : Cti l yX1_isLinked wsX1_isLinked rmX1_isLinked (dC, dI) (tyL cI cJ cZ cA) [(aN, .inr (1, [.ref aN_neighbours, .int N_posts])), (aN_neighbours, .inl (cI, 8, .inl N_neighbours))] [(aN, .inr (1, [.ref aN_neighbours, .int N_posts])), (aN_neighbours, .inl (cI, 8, .inl N_neighbours))] [.ref aN, .int p0, .int p1] rr := by
  refine ct_int (ty := .boolean) (cc := cX1_isLinked) (maxL := 3) (by decide) rfl (Nat.le_of_ble_eq_true rfl) ?_
  intro p e s m args below meth c A Q ls hx hb hml hown hts hA hK hP hD hS hl hret
  have hl : lv_has ls 3 [(0, .ref aN), (1, .int p0), (2, .int p1)] := hl
  have k_0 := hts (.fieldLink RX1 9 "BeepNet$Net" "neighbours" "[I") (by decide +kernel)
  have hiX1 : ∀ w ∈ u_ws RX1 TX1 2, w ∈ wsX1_isLinked := fun w hw => List.mem_cons_of_mem _ (List.mem_append_right _ hw)
  unfold fX1_isLinked at h
  refine lv_aload_n hx hb dX1_isLinked_0 rfl (lv_at hl 0 rfl) ?_
  refine ka_get (v := .ref aN_neighbours) (C := RX1) (T := TX1) (Nf := 2) (ref := "BeepNet$Net") hx hb hts hiX1 hown hK hP 0 rfl rfl 0 (by decide) k_0 rfl rfl dX1_isLinked_1 ?_
  refine lv_iload_n hx hb dX1_isLinked_4 rfl (lv_at hl 1 rfl) ?_
  obtain ⟨v1, ev1, hn2, h⟩ := ldx_s h
  refine ka_ild hx hb hK hP 1 0 ev1 rfl rfl hn2 dX1_isLinked_5 ?_
  refine lv_iload_n hx hb dX1_isLinked_6 rfl (lv_at hl 2 rfl) ?_
  refine lv_ishr hx hb dX1_isLinked_7 ?_
  refine lv_iconst (v := 1) hx hb dX1_isLinked_8 (by decide) ?_
  refine lv_iand hx hb dX1_isLinked_9 ?_
  refine lv_iconst (v := 1) hx hb dX1_isLinked_10 (by decide) ?_
  refine lv_icmp_ne (tgt := 18) hx hb dX1_isLinked_11 (by decide) (fun c3 => ?_) (fun c3 => ?_)
  · have h := ifn c3 h
    refine lv_iconst (v := 0) hx hb dX1_isLinked_18 (by decide) ?_
    obtain rfl := sj1 h
    exact hret _ _ _ _ _ rfl rfl hP hD hS dX1_isLinked_19
  · have h := ift c3 h
    refine lv_iconst (v := 1) hx hb dX1_isLinked_14 (by decide) ?_
    refine lv_goto (tgt := 19) hx hb dX1_isLinked_15 (by decide) ?_
    obtain rfl := sj1 h
    exact hret _ _ _ _ _ rfl rfl hP hD hS dX1_isLinked_19
set_option maxHeartbeats 4000000 in
set_option maxRecDepth 100000 in
theorem c_X1_toggle (l : Launch) (dC : Nat → ClassId) (dI : Nat → Nat → Nat) (cI cJ cZ cA : ClassId) (aN aN_neighbours : Nat) (N_posts : Int32) (N_neighbours : Nat → Int32) (p0 : Int32) (p1 : Int32) (rr : Int32) (N_neighbours_z : Nat → Int32) (h : fX1_toggle N_neighbours p0 p1 = some (rr, N_neighbours_z)) : Cti l yX1_toggle wsX1_toggle rmX1_toggle (dC, dI) (tyL cI cJ cZ cA) [(aN, .inr (1, [.ref aN_neighbours, .int N_posts])), (aN_neighbours, .inl (cI, 8, .inl N_neighbours))] [(aN, .inr (1, [.ref aN_neighbours, .int N_posts])), (aN_neighbours, .inl (cI, 8, .inl N_neighbours_z))] [.ref aN, .int p0, .int p1] rr := by
  refine ct_int (ty := .int) (cc := cX1_toggle) (maxL := 3) (by decide) rfl (Nat.le_of_ble_eq_true rfl) ?_
  intro p e s m args below meth c A Q ls hx hb hml hown hts hA hK hP hD hS hl hret
  have hl : lv_has ls 3 [(0, .ref aN), (1, .int p0), (2, .int p1)] := hl
  have k_0 := hts (.fieldLink RX1 9 "BeepNet$Net" "neighbours" "[I") (by decide +kernel)
  have hiX1 : ∀ w ∈ u_ws RX1 TX1 2, w ∈ wsX1_toggle := fun w hw => List.mem_cons_of_mem _ (List.mem_append_right _ hw)
  unfold fX1_toggle at h
  refine lv_aload_n hx hb dX1_toggle_0 rfl (lv_at hl 0 rfl) ?_
  refine ka_get (v := .ref aN_neighbours) (C := RX1) (T := TX1) (Nf := 2) (ref := "BeepNet$Net") hx hb hts hiX1 hown hK hP 0 rfl rfl 0 (by decide) k_0 rfl rfl dX1_toggle_1 ?_
  refine lv_iload_n hx hb dX1_toggle_4 rfl (lv_at hl 1 rfl) ?_
  refine lv_dup2_11 hx hb dX1_toggle_5 rfl rfl ?_
  obtain ⟨v1, ev1, hn2, h⟩ := ldx_s h
  refine ka_ild hx hb hK hP 1 0 ev1 rfl rfl hn2 dX1_toggle_6 ?_
  refine lv_iconst (v := 1) hx hb dX1_toggle_7 (by decide) ?_
  refine lv_iload_n hx hb dX1_toggle_8 rfl (lv_at hl 2 rfl) ?_
  refine lv_ishl hx hb dX1_toggle_9 ?_
  refine lv_ixor hx hb dX1_toggle_10 ?_
  obtain ⟨g3, eg3, hn4, h⟩ := sti_s h
  refine ka_ist (w1 := [(aN, .inr (1, [.ref aN_neighbours, .int N_posts])), (aN_neighbours, .inl (cI, 8, .inl g3))]) hx hb hK hP hD hS 1 0 eg3 rfl rfl hn4 dX1_toggle_11 rfl (fun H locs hP hD hS => ?_)
  refine lv_aload_n hx hb dX1_toggle_12 rfl (lv_at hl 0 rfl) ?_
  refine ka_get (v := .ref aN_neighbours) (C := RX1) (T := TX1) (Nf := 2) (ref := "BeepNet$Net") hx hb hts hiX1 hown hK hP 0 rfl rfl 0 (by decide) k_0 rfl rfl dX1_toggle_13 ?_
  refine lv_iload_n hx hb dX1_toggle_16 rfl (lv_at hl 2 rfl) ?_
  refine lv_dup2_11 hx hb dX1_toggle_17 rfl rfl ?_
  obtain ⟨v5, ev5, hn6, h⟩ := ldx_s h
  refine ka_ild hx hb hK hP 1 0 ev5 rfl rfl hn6 dX1_toggle_18 ?_
  refine lv_iconst (v := 1) hx hb dX1_toggle_19 (by decide) ?_
  refine lv_iload_n hx hb dX1_toggle_20 rfl (lv_at hl 1 rfl) ?_
  refine lv_ishl hx hb dX1_toggle_21 ?_
  refine lv_ixor hx hb dX1_toggle_22 ?_
  obtain ⟨g7, eg7, hn8, h⟩ := sti_s h
  refine ka_ist (w1 := [(aN, .inr (1, [.ref aN_neighbours, .int N_posts])), (aN_neighbours, .inl (cI, 8, .inl g7))]) hx hb hK hP hD hS 1 0 eg7 rfl rfl hn8 dX1_toggle_23 rfl (fun H locs hP hD hS => ?_)
  refine lv_iconst (v := 1) hx hb dX1_toggle_24 (by decide) ?_
  obtain ⟨rfl, rfl⟩ := sj2 h
  exact hret _ _ _ _ _ rfl rfl hP hD hS dX1_toggle_25
set_option maxHeartbeats 4000000 in
set_option maxRecDepth 100000 in
theorem c_X1_neighboursOf (l : Launch) (dC : Nat → ClassId) (dI : Nat → Nat → Nat) (cI cJ cZ cA : ClassId) (aN aN_neighbours : Nat) (N_posts : Int32) (N_neighbours : Nat → Int32) (p0 : Int32) (rr : Int32) (h : fX1_neighboursOf N_neighbours p0 = some rr) : Cti l yX1_neighboursOf wsX1_neighboursOf rmX1_neighboursOf (dC, dI) (tyL cI cJ cZ cA) [(aN, .inr (1, [.ref aN_neighbours, .int N_posts])), (aN_neighbours, .inl (cI, 8, .inl N_neighbours))] [(aN, .inr (1, [.ref aN_neighbours, .int N_posts])), (aN_neighbours, .inl (cI, 8, .inl N_neighbours))] [.ref aN, .int p0] rr := by
  refine ct_int (ty := .int) (cc := cX1_neighboursOf) (maxL := 2) (by decide) rfl (Nat.le_of_ble_eq_true rfl) ?_
  intro p e s m args below meth c A Q ls hx hb hml hown hts hA hK hP hD hS hl hret
  have hl : lv_has ls 2 [(0, .ref aN), (1, .int p0)] := hl
  have k_0 := hts (.fieldLink RX1 9 "BeepNet$Net" "neighbours" "[I") (by decide +kernel)
  have hiX1 : ∀ w ∈ u_ws RX1 TX1 2, w ∈ wsX1_neighboursOf := fun w hw => List.mem_cons_of_mem _ (List.mem_append_right _ hw)
  unfold fX1_neighboursOf at h
  refine lv_aload_n hx hb dX1_neighboursOf_0 rfl (lv_at hl 0 rfl) ?_
  refine ka_get (v := .ref aN_neighbours) (C := RX1) (T := TX1) (Nf := 2) (ref := "BeepNet$Net") hx hb hts hiX1 hown hK hP 0 rfl rfl 0 (by decide) k_0 rfl rfl dX1_neighboursOf_1 ?_
  refine lv_iload_n hx hb dX1_neighboursOf_4 rfl (lv_at hl 1 rfl) ?_
  obtain ⟨v1, ev1, hn2, h⟩ := ldx_s h
  refine ka_ild hx hb hK hP 1 0 ev1 rfl rfl hn2 dX1_neighboursOf_5 ?_
  obtain rfl := sj1 h
  exact hret _ _ _ _ _ rfl rfl hP hD hS dX1_neighboursOf_6
set_option maxHeartbeats 4000000 in
set_option maxRecDepth 100000 in
theorem c_X1_pairs (l : Launch) (dC : Nat → ClassId) (dI : Nat → Nat → Nat) (cI cJ cZ cA : ClassId) (aN aN_neighbours : Nat) (N_posts : Int32) (N_neighbours : Nat → Int32) (rr : Int32) (h : fX1_pairs N_posts N_neighbours = some rr) : Cti l yX1_pairs wsX1_pairs rmX1_pairs (dC, dI) (tyL cI cJ cZ cA) [(aN, .inr (1, [.ref aN_neighbours, .int N_posts])), (aN_neighbours, .inl (cI, 8, .inl N_neighbours))] [(aN, .inr (1, [.ref aN_neighbours, .int N_posts])), (aN_neighbours, .inl (cI, 8, .inl N_neighbours))] [.ref aN] rr := by
  refine ct_int (ty := .int) (cc := cX1_pairs) (maxL := 3) (by decide) rfl (Nat.le_of_ble_eq_true rfl) ?_
  intro p e s m args below meth c A Q ls hx hb hml hown hts hA hK hP hD hS hl hret
  have hl : lv_has ls 3 [(0, .ref aN)] := hl
  have k_0 := hts (.fieldLink RX1 15 "BeepNet$Net" "posts" "I") (by decide +kernel)
  have hiX1 : ∀ w ∈ u_ws RX1 TX1 2, w ∈ wsX1_pairs := fun w hw => List.mem_cons_of_mem _ (List.mem_append_right _ hw)
  have hC4 : ∀ (n : Nat) (x1 : Int32) (x2 : Int32) (H : Heap) (locs : List Loc) (ls : Array Slot), fX1_pairs_c4 N_posts N_neighbours n x1 x2 = some rr → va_P (dC, dI) vwCl [(aN, .inr (1, [.ref aN_neighbours, .int N_posts])), (aN_neighbours, .inl (cI, 8, .inl N_neighbours))] H → va_D A [(aN, .inr (1, [.ref aN_neighbours, .int N_posts])), (aN_neighbours, .inl (cI, 8, .inl N_neighbours))] → va_S A s.heap H locs → lv_has ls 3 [(0, .ref aN), (1, .int x1), (2, .int x2)] → W p l e rmX1_pairs s m args below meth c H locs 0 0 Q (F0 m 4 ls []) := by
    intro n
    induction n with
    | zero => intro x1 x2 H locs ls h; rw [fX1_pairs_c4] at h; cases h
    | succ n4 ih4 =>
      intro x1 x2 H locs ls h hP hD hS hl
      rw [fX1_pairs_c4] at h
      refine lv_iload_n hx hb dX1_pairs_4 rfl (lv_at hl 2 rfl) ?_
      refine lv_aload_n hx hb dX1_pairs_5 rfl (lv_at hl 0 rfl) ?_
      refine ka_get (v := .int N_posts) (C := RX1) (T := TX1) (Nf := 2) (ref := "BeepNet$Net") hx hb hts hiX1 hown hK hP 0 rfl rfl 1 (by decide) k_0 rfl rfl dX1_pairs_6 ?_
      refine lv_icmp_ge (tgt := 26) hx hb dX1_pairs_9 (by decide) (fun c501 => ?_) (fun c501 => ?_)
      · have h := ift c501 h
        refine lv_iload_n hx hb dX1_pairs_26 rfl (lv_at hl 1 rfl) ?_
        refine lv_iconst (v := 2) hx hb dX1_pairs_27 (by decide) ?_
        refine lv_idiv hx hb dX1_pairs_28 (by decide) ?_
        obtain rfl := sj1 h
        exact hret _ _ _ _ _ rfl rfl hP hD hS dX1_pairs_29
      · have h := ifn c501 h
        refine lv_iload_n hx hb dX1_pairs_12 rfl (lv_at hl 1 rfl) ?_
        refine lv_aload_n hx hb dX1_pairs_13 rfl (lv_at hl 0 rfl) ?_
        refine lv_iload_n hx hb dX1_pairs_14 rfl (lv_at hl 2 rfl) ?_
        obtain ⟨r502, e503, h⟩ := bd1_s h
        refine kc_vi (rest := [.int x1]) (wr := []) (wF := [(aN, .inr (1, [.ref aN_neighbours, .int N_posts])), (aN_neighbours, .inl (cI, 8, .inl N_neighbours))]) ⟨hx, hb, hml, hown, hts⟩ (c_X1_degree l dC dI cI cJ cZ cA aN aN_neighbours N_posts N_neighbours x2 r502 e503) (cwV 1 hts gX1_pairs_X1_degree rfl rfl rfl (by decide +kernel) ⟨Nat.le_of_ble_eq_true rfl, Nat.le_of_ble_eq_true rfl⟩) hK hP hD hS hA [0, 1] [] [0, 1] 0 rfl rfl rfl rfl (by decide) rfl rfl rfl rfl rfl rfl hl.1 rfl (Nat.le_of_ble_eq_true rfl) dX1_pairs_15 ⟨Nat.zero_le _, Nat.zero_le _⟩ (fun H locs hP hD hS => ?_)
        refine lv_iadd hx hb dX1_pairs_18 ?_
        refine lv_istore_n (lv' := [(1, .int (x1 + r502)), (0, .ref aN), (2, .int x2)]) hx hb dX1_pairs_19 rfl hl (by decide) rfl (fun ls hl => ?_)
        refine lv_iinc (v := x2 + 1) (lv' := [(2, .int (x2 + 1)), (1, .int (x1 + r502)), (0, .ref aN)]) hx hb dX1_pairs_20 hl (k := 2) rfl rfl (by decide) rfl (fun ls hl => ?_)
        refine lv_goto (tgt := 4) hx hb dX1_pairs_23 (by decide) ?_
        exact ih4 (x1 + r502) (x2 + 1) _ _ _ h hP hD hS (lv_sub hl [2, 1, 0] rfl)
  unfold fX1_pairs at h
  refine lv_iconst (v := 0) hx hb dX1_pairs_0 (by decide) ?_
  refine lv_istore_n (lv' := [(1, .int 0), (0, .ref aN)]) hx hb dX1_pairs_1 rfl hl (by decide) rfl (fun ls hl => ?_)
  refine lv_iconst (v := 0) hx hb dX1_pairs_2 (by decide) ?_
  refine lv_istore_n (lv' := [(2, .int 0), (1, .int 0), (0, .ref aN)]) hx hb dX1_pairs_3 rfl hl (by decide) rfl (fun ls hl => ?_)
  exact hC4 FU 0 0 _ _ _ h hP hD hS (lv_sub hl [2, 1, 0] rfl)
set_option maxHeartbeats 4000000 in
set_option maxRecDepth 100000 in
theorem c_X1_reachOf (l : Launch) (dC : Nat → ClassId) (dI : Nat → Nat → Nat) (cI cJ cZ cA : ClassId) (aN aN_neighbours : Nat) (N_posts : Int32) (N_neighbours : Nat → Int32) (p0 : Int32) (rr : Int32) (h : fX1_reachOf N_posts N_neighbours p0 = some rr) : Cti l yX1_reachOf wsX1_reachOf rmX1_reachOf (dC, dI) (tyL cI cJ cZ cA) [(aN, .inr (1, [.ref aN_neighbours, .int N_posts])), (aN_neighbours, .inl (cI, 8, .inl N_neighbours))] [(aN, .inr (1, [.ref aN_neighbours, .int N_posts])), (aN_neighbours, .inl (cI, 8, .inl N_neighbours))] [.ref aN, .int p0] rr := by
  refine ct_int (ty := .int) (cc := cX1_reachOf) (maxL := 4) (by decide) rfl (Nat.le_of_ble_eq_true rfl) ?_
  intro p e s m args below meth c A Q ls hx hb hml hown hts hA hK hP hD hS hl hret
  have hl : lv_has ls 4 [(0, .ref aN), (1, .int p0)] := hl
  have k_0 := hts (.fieldLink RX1 15 "BeepNet$Net" "posts" "I") (by decide +kernel)
  have hiX1 : ∀ w ∈ u_ws RX1 TX1 2, w ∈ wsX1_reachOf := fun w hw => List.mem_cons_of_mem _ (List.mem_append_right _ hw)
  have hC4 : ∀ (n : Nat) (x2 : Int32) (x3 : Int32) (H : Heap) (locs : List Loc) (ls : Array Slot), fX1_reachOf_c4 N_posts N_neighbours n x2 x3 = some rr → va_P (dC, dI) vwCl [(aN, .inr (1, [.ref aN_neighbours, .int N_posts])), (aN_neighbours, .inl (cI, 8, .inl N_neighbours))] H → va_D A [(aN, .inr (1, [.ref aN_neighbours, .int N_posts])), (aN_neighbours, .inl (cI, 8, .inl N_neighbours))] → va_S A s.heap H locs → lv_has ls 4 [(0, .ref aN), (2, .int x2), (3, .int x3)] → W p l e rmX1_reachOf s m args below meth c H locs 0 0 Q (F0 m 4 ls []) := by
    intro n
    induction n with
    | zero => intro x2 x3 H locs ls h; rw [fX1_reachOf_c4] at h; cases h
    | succ n4 ih4 =>
      intro x2 x3 H locs ls h hP hD hS hl
      rw [fX1_reachOf_c4] at h
      refine lv_iload_n hx hb dX1_reachOf_4 rfl (lv_at hl 2 rfl) ?_
      refine lv_aload_n hx hb dX1_reachOf_5 rfl (lv_at hl 0 rfl) ?_
      refine ka_get (v := .int N_posts) (C := RX1) (T := TX1) (Nf := 2) (ref := "BeepNet$Net") hx hb hts hiX1 hown hK hP 0 rfl rfl 1 (by decide) k_0 rfl rfl dX1_reachOf_6 ?_
      refine lv_icmp_ge (tgt := 24) hx hb dX1_reachOf_9 (by decide) (fun c501 => ?_) (fun c501 => ?_)
      · have h := ift c501 h
        refine lv_iload_n hx hb dX1_reachOf_24 rfl (lv_at hl 1 rfl) ?_
        obtain rfl := sj1 h
        exact hret _ _ _ _ _ rfl rfl hP hD hS dX1_reachOf_25
      · have h := ifn c501 h
        refine lv_aload_n hx hb dX1_reachOf_12 rfl (lv_at hl 0 rfl) ?_
        refine lv_iload_n hx hb dX1_reachOf_13 rfl (lv_at hl 1 rfl) ?_
        obtain ⟨r502, e503, h⟩ := bd1_s h
        refine kc_vi (rest := []) (wr := []) (wF := [(aN, .inr (1, [.ref aN_neighbours, .int N_posts])), (aN_neighbours, .inl (cI, 8, .inl N_neighbours))]) ⟨hx, hb, hml, hown, hts⟩ (c_X1_oneStepFrom l dC dI cI cJ cZ cA aN aN_neighbours N_posts N_neighbours x2 r502 e503) (cwV 1 hts gX1_reachOf_X1_oneStepFrom rfl rfl rfl (by decide +kernel) ⟨Nat.le_of_ble_eq_true rfl, Nat.le_of_ble_eq_true rfl⟩) hK hP hD hS hA [0, 1] [] [0, 1] 0 rfl rfl rfl rfl (by decide) rfl rfl rfl rfl rfl rfl hl.1 rfl (Nat.le_of_ble_eq_true rfl) dX1_reachOf_14 ⟨Nat.zero_le _, Nat.zero_le _⟩ (fun H locs hP hD hS => ?_)
        refine lv_istore_n (lv' := [(2, .int r502), (0, .ref aN), (3, .int x3)]) hx hb dX1_reachOf_17 rfl hl (by decide) rfl (fun ls hl => ?_)
        refine lv_iinc (v := x3 + 1) (lv' := [(3, .int (x3 + 1)), (2, .int r502), (0, .ref aN)]) hx hb dX1_reachOf_18 hl (k := 2) rfl rfl (by decide) rfl (fun ls hl => ?_)
        refine lv_goto (tgt := 4) hx hb dX1_reachOf_21 (by decide) ?_
        exact ih4 r502 (x3 + 1) _ _ _ h hP hD hS (lv_sub hl [2, 1, 0] rfl)
  unfold fX1_reachOf at h
  refine lv_iload_n hx hb dX1_reachOf_0 rfl (lv_at hl 1 rfl) ?_
  refine lv_istore_n (lv' := [(2, .int p0), (0, .ref aN), (1, .int p0)]) hx hb dX1_reachOf_1 rfl hl (by decide) rfl (fun ls hl => ?_)
  refine lv_iconst (v := 1) hx hb dX1_reachOf_2 (by decide) ?_
  refine lv_istore_n (lv' := [(3, .int 1), (2, .int p0), (0, .ref aN), (1, .int p0)]) hx hb dX1_reachOf_3 rfl hl (by decide) rfl (fun ls hl => ?_)
  exact hC4 FU p0 1 _ _ _ h hP hD hS (lv_sub hl [2, 1, 0] rfl)
