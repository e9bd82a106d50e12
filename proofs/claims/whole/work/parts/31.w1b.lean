set_option maxHeartbeats 4000000 in
set_option maxRecDepth 100000 in
theorem c_X1_stepsBetween (l : Launch) (dC : Nat → ClassId) (dI : Nat → Nat → Nat) (cI cJ cZ cA : ClassId) (aN aN_neighbours : Nat) (N_posts : Int32) (N_neighbours : Nat → Int32) (p0 : Int32) (p1 : Int32) (rr : Int32) (h : fX1_stepsBetween N_posts N_neighbours p0 p1 = some rr) : Cti l yX1_stepsBetween wsX1_stepsBetween rmX1_stepsBetween (dC, dI) (tyL cI cJ cZ cA) [(aN, .inr (1, [.ref aN_neighbours, .int N_posts])), (aN_neighbours, .inl (cI, 8, .inl N_neighbours))] [(aN, .inr (1, [.ref aN_neighbours, .int N_posts])), (aN_neighbours, .inl (cI, 8, .inl N_neighbours))] [.ref aN, .int p0, .int p1] rr := by
  refine ct_int (ty := .int) (cc := cX1_stepsBetween) (maxL := 5) (by decide) rfl (Nat.le_of_ble_eq_true rfl) ?_
  intro p e s m args below meth c A Q ls hx hb hml hown hts hA hK hP hD hS hl hret
  have hl : lv_has ls 5 [(0, .ref aN), (1, .int p0), (2, .int p1)] := hl
  have k_0 := hts (.fieldLink RX1 15 "BeepNet$Net" "posts" "I") (by decide +kernel)
  have k_1 := hts (.constant RX1 35 (-1000000)) (by decide +kernel)
  have hiX1 : ∀ w ∈ u_ws RX1 TX1 2, w ∈ wsX1_stepsBetween := fun w hw => List.mem_cons_of_mem _ (List.mem_append_right _ hw)
  have hC7 : ∀ (n : Nat) (x2 : Int32) (x3 : Int32) (x4 : Int32) (H : Heap) (locs : List Loc) (ls : Array Slot), fX1_stepsBetween_c7 N_posts N_neighbours n x2 x3 x4 = some rr → va_P (dC, dI) vwCl [(aN, .inr (1, [.ref aN_neighbours, .int N_posts])), (aN_neighbours, .inl (cI, 8, .inl N_neighbours))] H → va_D A [(aN, .inr (1, [.ref aN_neighbours, .int N_posts])), (aN_neighbours, .inl (cI, 8, .inl N_neighbours))] → va_S A s.heap H locs → lv_has ls 5 [(0, .ref aN), (2, .int x2), (3, .int x3), (4, .int x4)] → W p l e rmX1_stepsBetween s m args below meth c H locs 0 0 Q (F0 m 7 ls []) := by
    intro n
    induction n with
    | zero => intro x2 x3 x4 H locs ls h; rw [fX1_stepsBetween_c7] at h; cases h
    | succ n7 ih7 =>
      intro x2 x3 x4 H locs ls h hP hD hS hl
      rw [fX1_stepsBetween_c7] at h
      refine lv_iload hx hb dX1_stepsBetween_7 (lv_at hl 3 rfl) ?_
      refine lv_aload_n hx hb dX1_stepsBetween_9 rfl (lv_at hl 0 rfl) ?_
      refine ka_get (v := .int N_posts) (C := RX1) (T := TX1) (Nf := 2) (ref := "BeepNet$Net") hx hb hts hiX1 hown hK hP 0 rfl rfl 1 (by decide) k_0 rfl rfl dX1_stepsBetween_10 ?_
      refine lv_icmp_ge (tgt := 40) hx hb dX1_stepsBetween_13 (by decide) (fun c801 => ?_) (fun c801 => ?_)
      · have h := ift c801 h
        refine lv_ldc hx hb hown k_1 dX1_stepsBetween_40 ?_
        obtain rfl := sj1 h
        exact hret _ _ _ _ _ rfl rfl hP hD hS dX1_stepsBetween_42
      · have h := ifn c801 h
        refine lv_iload_n hx hb dX1_stepsBetween_16 rfl (lv_at hl 2 rfl) ?_
        refine lv_iload_n hx hb dX1_stepsBetween_17 rfl (lv_at hl 1 rfl) ?_
        refine lv_ishr hx hb dX1_stepsBetween_18 ?_
        refine lv_iconst (v := 1) hx hb dX1_stepsBetween_19 (by decide) ?_
        refine lv_iand hx hb dX1_stepsBetween_20 ?_
        refine lv_iconst (v := 1) hx hb dX1_stepsBetween_21 (by decide) ?_
        refine lv_icmp_ne (tgt := 28) hx hb dX1_stepsBetween_22 (by decide) (fun c802 => ?_) (fun c802 => ?_)
        · have h := ifn c802 h
          refine lv_aload_n hx hb dX1_stepsBetween_28 rfl (lv_at hl 0 rfl) ?_
          refine lv_iload_n hx hb dX1_stepsBetween_29 rfl (lv_at hl 2 rfl) ?_
          obtain ⟨r803, e804, h⟩ := bd1_s h
          refine kc_vi (rest := []) (wr := []) (wF := [(aN, .inr (1, [.ref aN_neighbours, .int N_posts])), (aN_neighbours, .inl (cI, 8, .inl N_neighbours))]) ⟨hx, hb, hml, hown, hts⟩ (c_X1_oneStepFrom l dC dI cI cJ cZ cA aN aN_neighbours N_posts N_neighbours x3 r803 e804) (cwV 1 hts gX1_stepsBetween_X1_oneStepFrom rfl rfl rfl (by decide +kernel) ⟨Nat.le_of_ble_eq_true rfl, Nat.le_of_ble_eq_true rfl⟩) hK hP hD hS hA [0, 1] [] [0, 1] 0 rfl rfl rfl rfl (by decide) rfl rfl rfl rfl rfl rfl hl.1 rfl (Nat.le_of_ble_eq_true rfl) dX1_stepsBetween_30 ⟨Nat.zero_le _, Nat.zero_le _⟩ (fun H locs hP hD hS => ?_)
          refine lv_istore_n (lv' := [(3, .int r803), (0, .ref aN), (2, .int x2), (4, .int x4)]) hx hb dX1_stepsBetween_33 rfl hl (by decide) rfl (fun ls hl => ?_)
          refine lv_iinc (v := x4 + 1) (lv' := [(4, .int (x4 + 1)), (3, .int r803), (0, .ref aN), (2, .int x2)]) hx hb dX1_stepsBetween_34 hl (k := 3) rfl rfl (by decide) rfl (fun ls hl => ?_)
          refine lv_goto (tgt := 7) hx hb dX1_stepsBetween_37 (by decide) ?_
          exact ih7 x2 r803 (x4 + 1) _ _ _ h hP hD hS (lv_sub hl [2, 3, 1, 0] rfl)
        · have h := ift c802 h
          refine lv_iload hx hb dX1_stepsBetween_25 (lv_at hl 3 rfl) ?_
          obtain rfl := sj1 h
          exact hret _ _ _ _ _ rfl rfl hP hD hS dX1_stepsBetween_27
  unfold fX1_stepsBetween at h
  refine lv_iconst (v := 1) hx hb dX1_stepsBetween_0 (by decide) ?_
  refine lv_iload_n hx hb dX1_stepsBetween_1 rfl (lv_at hl 1 rfl) ?_
  refine lv_ishl hx hb dX1_stepsBetween_2 ?_
  obtain ⟨v1, ev1, h⟩ := bnd_s h
  refine kn_i ev1 ?_
  refine lv_istore_n (lv' := [(3, .int v1), (0, .ref aN), (1, .int p0), (2, .int p1)]) hx hb dX1_stepsBetween_3 rfl hl (by decide) rfl (fun ls hl => ?_)
  refine lv_iconst (v := 0) hx hb dX1_stepsBetween_4 (by decide) ?_
  refine lv_istore (lv' := [(4, .int 0), (3, .int v1), (0, .ref aN), (1, .int p0), (2, .int p1)]) hx hb dX1_stepsBetween_5 hl (by decide) rfl (fun ls hl => ?_)
  exact hC7 FU p1 v1 0 _ _ _ h hP hD hS (lv_sub hl [2, 4, 1, 0] rfl)
set_option maxHeartbeats 4000000 in
set_option maxRecDepth 100000 in
theorem c_X1_heardBy (l : Launch) (dC : Nat → ClassId) (dI : Nat → Nat → Nat) (cI cJ cZ cA : ClassId) (aN aN_neighbours : Nat) (N_posts : Int32) (N_neighbours : Nat → Int32) (p0 : Int32) (p1 : Int32) (rr : Int32) (h : fX1_heardBy N_posts N_neighbours p0 p1 = some rr) : Cti l yX1_heardBy wsX1_heardBy rmX1_heardBy (dC, dI) (tyL cI cJ cZ cA) [(aN, .inr (1, [.ref aN_neighbours, .int N_posts])), (aN_neighbours, .inl (cI, 8, .inl N_neighbours))] [(aN, .inr (1, [.ref aN_neighbours, .int N_posts])), (aN_neighbours, .inl (cI, 8, .inl N_neighbours))] [.ref aN, .int p0, .int p1] rr := by
  refine ct_int (ty := .int) (cc := cX1_heardBy) (maxL := 6) (by decide) rfl (Nat.le_of_ble_eq_true rfl) ?_
  intro p e s m args below meth c A Q ls hx hb hml hown hts hA hK hP hD hS hl hret
  have hl : lv_has ls 6 [(0, .ref aN), (1, .int p0), (2, .int p1)] := hl
  have k_0 := hts (.fieldLink RX1 15 "BeepNet$Net" "posts" "I") (by decide +kernel)
  have k_1 := hts (.fieldLink RX1 9 "BeepNet$Net" "neighbours" "[I") (by decide +kernel)
  have hiX1 : ∀ w ∈ u_ws RX1 TX1 2, w ∈ wsX1_heardBy := fun w hw => List.mem_cons_of_mem _ (List.mem_append_right _ hw)
  have hC72 : ∀ (x2 : Int32) (t0 : Int32) (H : Heap) (locs : List Loc) (ls : Array Slot), fX1_heardBy_c72 N_posts N_neighbours x2 t0 = some rr → va_P (dC, dI) vwCl [(aN, .inr (1, [.ref aN_neighbours, .int N_posts])), (aN_neighbours, .inl (cI, 8, .inl N_neighbours))] H → va_D A [(aN, .inr (1, [.ref aN_neighbours, .int N_posts])), (aN_neighbours, .inl (cI, 8, .inl N_neighbours))] → va_S A s.heap H locs → lv_has ls 6 [(2, .int x2)] → W p l e rmX1_heardBy s m args below meth c H locs 0 0 Q (F0 m 72 ls [.int t0]) := by
    intro x2 t0 H locs ls h hP hD hS hl
    unfold fX1_heardBy_c72 at h
    refine lv_istore (lv' := [(5, .int t0), (2, .int x2)]) hx hb dX1_heardBy_72 hl (by decide) rfl (fun ls hl => ?_)
    refine lv_iload hx hb dX1_heardBy_74 (lv_at hl 0 rfl) ?_
    refine lv_iload_n hx hb dX1_heardBy_76 rfl (lv_at hl 1 rfl) ?_
    refine lv_iconst (v := -1) hx hb dX1_heardBy_77 (by decide) ?_
    refine lv_ixor hx hb dX1_heardBy_78 ?_
    refine lv_iand hx hb dX1_heardBy_79 ?_
    obtain rfl := sj1 h
    exact hret _ _ _ _ _ rfl rfl hP hD hS dX1_heardBy_80
  have hC8 : ∀ (n : Nat) (x1 : Int32) (x2 : Int32) (x3 : Int32) (x4 : Int32) (x5 : Int32) (H : Heap) (locs : List Loc) (ls : Array Slot), fX1_heardBy_c8 N_posts N_neighbours n x1 x2 x3 x4 x5 = some rr → va_P (dC, dI) vwCl [(aN, .inr (1, [.ref aN_neighbours, .int N_posts])), (aN_neighbours, .inl (cI, 8, .inl N_neighbours))] H → va_D A [(aN, .inr (1, [.ref aN_neighbours, .int N_posts])), (aN_neighbours, .inl (cI, 8, .inl N_neighbours))] → va_S A s.heap H locs → lv_has ls 6 [(0, .ref aN), (1, .int x1), (2, .int x2), (3, .int x3), (4, .int x4), (5, .int x5)] → W p l e rmX1_heardBy s m args below meth c H locs 0 0 Q (F0 m 8 ls []) := by
    intro n
    induction n with
    | zero => intro x1 x2 x3 x4 x5 H locs ls h; rw [fX1_heardBy_c8] at h; cases h
    | succ n8 ih8 =>
      intro x1 x2 x3 x4 x5 H locs ls h hP hD hS hl
      rw [fX1_heardBy_c8] at h
      refine lv_iload hx hb dX1_heardBy_8 (lv_at hl 5 rfl) ?_
      refine lv_aload_n hx hb dX1_heardBy_10 rfl (lv_at hl 0 rfl) ?_
      refine ka_get (v := .int N_posts) (C := RX1) (T := TX1) (Nf := 2) (ref := "BeepNet$Net") hx hb hts hiX1 hown hK hP 0 rfl rfl 1 (by decide) k_0 rfl rfl dX1_heardBy_11 ?_
      refine lv_icmp_ge (tgt := 57) hx hb dX1_heardBy_14 (by decide) (fun c901 => ?_) (fun c901 => ?_)
      · have h := ift c901 h
        refine lv_iload_n hx hb dX1_heardBy_57 rfl (lv_at hl 1 rfl) ?_
        refine lv_iconst (v := 1) hx hb dX1_heardBy_58 (by decide) ?_
        refine lv_icmp_ne (tgt := 71) hx hb dX1_heardBy_59 (by decide) (fun c902 => ?_) (fun c902 => ?_)
        · have h := ifn c902 h
          refine lv_iload_n hx hb dX1_heardBy_71 rfl (lv_at hl 3 rfl) ?_
          exact hC72 x2 x3 _ _ _ h hP hD hS (lv_sub hl [2] rfl)
        · have h := ift c902 h
          refine lv_iload_n hx hb dX1_heardBy_62 rfl (lv_at hl 3 rfl) ?_
          refine lv_iload hx hb dX1_heardBy_63 (lv_at hl 4 rfl) ?_
          refine lv_iconst (v := -1) hx hb dX1_heardBy_65 (by decide) ?_
          refine lv_ixor hx hb dX1_heardBy_66 ?_
          refine lv_iand hx hb dX1_heardBy_67 ?_
          refine lv_goto (tgt := 72) hx hb dX1_heardBy_68 (by decide) ?_
          exact hC72 x2 (x3 &&& (x4 ^^^ (-1 : Int32))) _ _ _ h hP hD hS (lv_sub hl [2] rfl)
      · have h := ifn c901 h
        refine lv_iload_n hx hb dX1_heardBy_17 rfl (lv_at hl 2 rfl) ?_
        refine lv_iload hx hb dX1_heardBy_18 (lv_at hl 5 rfl) ?_
        refine lv_ishr hx hb dX1_heardBy_20 ?_
        refine lv_iconst (v := 1) hx hb dX1_heardBy_21 (by decide) ?_
        refine lv_iand hx hb dX1_heardBy_22 ?_
        refine lv_iconst (v := 1) hx hb dX1_heardBy_23 (by decide) ?_
        refine lv_icmp_ne (tgt := 51) hx hb dX1_heardBy_24 (by decide) (fun c903 => ?_) (fun c903 => ?_)
        · have h := ifn c903 h
          refine lv_iinc (v := x5 + 1) (lv' := [(5, .int (x5 + 1)), (0, .ref aN), (1, .int x1), (2, .int x2), (3, .int x3), (4, .int x4)]) hx hb dX1_heardBy_51 hl (k := 5) rfl rfl (by decide) rfl (fun ls hl => ?_)
          refine lv_goto (tgt := 8) hx hb dX1_heardBy_54 (by decide) ?_
          exact ih8 x1 x2 x3 x4 (x5 + 1) _ _ _ h hP hD hS (lv_sub hl [1, 2, 3, 4, 5, 0] rfl)
        · have h := ift c903 h
          refine lv_iload hx hb dX1_heardBy_27 (lv_at hl 4 rfl) ?_
          refine lv_iload_n hx hb dX1_heardBy_29 rfl (lv_at hl 3 rfl) ?_
          refine lv_aload_n hx hb dX1_heardBy_30 rfl (lv_at hl 0 rfl) ?_
          refine ka_get (v := .ref aN_neighbours) (C := RX1) (T := TX1) (Nf := 2) (ref := "BeepNet$Net") hx hb hts hiX1 hown hK hP 0 rfl rfl 0 (by decide) k_1 rfl rfl dX1_heardBy_31 ?_
          refine lv_iload hx hb dX1_heardBy_34 (lv_at hl 5 rfl) ?_
          obtain ⟨v904, ev904, hn905, h⟩ := ldx_s h
          refine ka_ild hx hb hK hP 1 0 ev904 rfl rfl hn905 dX1_heardBy_36 ?_
          refine lv_iand hx hb dX1_heardBy_37 ?_
          refine lv_ior hx hb dX1_heardBy_38 ?_
          refine lv_istore (lv' := [(4, .int (x4 ||| (x3 &&& v904))), (0, .ref aN), (1, .int x1), (2, .int x2), (3, .int x3), (5, .int x5)]) hx hb dX1_heardBy_39 hl (by decide) rfl (fun ls hl => ?_)
          refine lv_iload_n hx hb dX1_heardBy_41 rfl (lv_at hl 4 rfl) ?_
          refine lv_aload_n hx hb dX1_heardBy_42 rfl (lv_at hl 1 rfl) ?_
          refine ka_get (v := .ref aN_neighbours) (C := RX1) (T := TX1) (Nf := 2) (ref := "BeepNet$Net") hx hb hts hiX1 hown hK hP 0 rfl rfl 0 (by decide) k_1 rfl rfl dX1_heardBy_43 ?_
          refine lv_iload hx hb dX1_heardBy_46 (lv_at hl 5 rfl) ?_
          obtain ⟨v906, ev906, hn907, h⟩ := ldx_s h
          refine ka_ild hx hb hK hP 1 0 ev906 rfl rfl hn907 dX1_heardBy_48 ?_
          refine lv_ior hx hb dX1_heardBy_49 ?_
          refine lv_istore_n (lv' := [(3, .int (x3 ||| v906)), (4, .int (x4 ||| (x3 &&& v904))), (0, .ref aN), (1, .int x1), (2, .int x2), (5, .int x5)]) hx hb dX1_heardBy_50 rfl hl (by decide) rfl (fun ls hl => ?_)
          refine lv_iinc (v := x5 + 1) (lv' := [(5, .int (x5 + 1)), (3, .int (x3 ||| v906)), (4, .int (x4 ||| (x3 &&& v904))), (0, .ref aN), (1, .int x1), (2, .int x2)]) hx hb dX1_heardBy_51 hl (k := 5) rfl rfl (by decide) rfl (fun ls hl => ?_)
          refine lv_goto (tgt := 8) hx hb dX1_heardBy_54 (by decide) ?_
          exact ih8 x1 x2 (x3 ||| v906) (x4 ||| (x3 &&& v904)) (x5 + 1) _ _ _ h hP hD hS (lv_sub hl [3, 4, 5, 1, 2, 0] rfl)
  unfold fX1_heardBy at h
  refine lv_iconst (v := 0) hx hb dX1_heardBy_0 (by decide) ?_
  refine lv_istore_n (lv' := [(3, .int 0), (0, .ref aN), (1, .int p0), (2, .int p1)]) hx hb dX1_heardBy_1 rfl hl (by decide) rfl (fun ls hl => ?_)
  refine lv_iconst (v := 0) hx hb dX1_heardBy_2 (by decide) ?_
  refine lv_istore (lv' := [(4, .int 0), (3, .int 0), (0, .ref aN), (1, .int p0), (2, .int p1)]) hx hb dX1_heardBy_3 hl (by decide) rfl (fun ls hl => ?_)
  refine lv_iconst (v := 0) hx hb dX1_heardBy_5 (by decide) ?_
  refine lv_istore (lv' := [(5, .int 0), (4, .int 0), (3, .int 0), (0, .ref aN), (1, .int p0), (2, .int p1)]) hx hb dX1_heardBy_6 hl (by decide) rfl (fun ls hl => ?_)
  exact hC8 FU p0 p1 0 0 0 _ _ _ h hP hD hS (lv_sub hl [3, 4, 5, 2, 1, 0] rfl)
set_option maxHeartbeats 4000000 in
set_option maxRecDepth 100000 in
theorem c_X1_knowAfter (l : Launch) (dC : Nat → ClassId) (dI : Nat → Nat → Nat) (cI cJ cZ cA : ClassId) (aN aN_neighbours : Nat) (N_posts : Int32) (N_neighbours : Nat → Int32) (p0 : Int32) (p1 : Int32) (p2 : Int32) (rr : Int32) (h : fX1_knowAfter N_posts N_neighbours p0 p1 p2 = some rr) : Cti l yX1_knowAfter wsX1_knowAfter rmX1_knowAfter (dC, dI) (tyL cI cJ cZ cA) [(aN, .inr (1, [.ref aN_neighbours, .int N_posts])), (aN_neighbours, .inl (cI, 8, .inl N_neighbours))] [(aN, .inr (1, [.ref aN_neighbours, .int N_posts])), (aN_neighbours, .inl (cI, 8, .inl N_neighbours))] [.ref aN, .int p0, .int p1, .int p2] rr := by
  refine ct_int (ty := .int) (cc := cX1_knowAfter) (maxL := 4) (by decide) rfl (Nat.le_of_ble_eq_true rfl) ?_
  intro p e s m args below meth c A Q ls hx hb hml hown hts hA hK hP hD hS hl hret
  have hl : lv_has ls 4 [(0, .ref aN), (1, .int p0), (2, .int p1), (3, .int p2)] := hl
  unfold fX1_knowAfter at h
  refine lv_iload_n hx hb dX1_knowAfter_0 rfl (lv_at hl 2 rfl) ?_
  refine lv_aload_n hx hb dX1_knowAfter_1 rfl (lv_at hl 0 rfl) ?_
  refine lv_iload_n hx hb dX1_knowAfter_2 rfl (lv_at hl 1 rfl) ?_
  refine lv_iload_n hx hb dX1_knowAfter_3 rfl (lv_at hl 2 rfl) ?_
  refine lv_iload_n hx hb dX1_knowAfter_4 rfl (lv_at hl 3 rfl) ?_
  refine lv_iand hx hb dX1_knowAfter_5 ?_
  obtain ⟨r1, e2, h⟩ := bd1_s h
  refine kc_vi (rest := [.int p1]) (wr := []) (wF := [(aN, .inr (1, [.ref aN_neighbours, .int N_posts])), (aN_neighbours, .inl (cI, 8, .inl N_neighbours))]) ⟨hx, hb, hml, hown, hts⟩ (c_X1_heardBy l dC dI cI cJ cZ cA aN aN_neighbours N_posts N_neighbours p0 (p1 &&& p2) r1 e2) (cwV 2 hts gX1_knowAfter_X1_heardBy rfl rfl rfl (by decide +kernel) ⟨Nat.le_of_ble_eq_true rfl, Nat.le_of_ble_eq_true rfl⟩) hK hP hD hS hA [0, 1] [] [0, 1] 0 rfl rfl rfl rfl (by decide) rfl rfl rfl rfl rfl rfl hl.1 rfl (Nat.le_of_ble_eq_true rfl) dX1_knowAfter_6 ⟨Nat.zero_le _, Nat.zero_le _⟩ (fun H locs hP hD hS => ?_)
  refine lv_ior hx hb dX1_knowAfter_9 ?_
  obtain rfl := sj1 h
  exact hret _ _ _ _ _ rfl rfl hP hD hS dX1_knowAfter_10
set_option maxHeartbeats 4000000 in
set_option maxRecDepth 100000 in
theorem c_X1_isOfKind (l : Launch) (dC : Nat → ClassId) (dI : Nat → Nat → Nat) (cI cJ cZ cA : ClassId) (aN aN_neighbours : Nat) (N_posts : Int32) (N_neighbours : Nat → Int32) (p0 : Int32) (p1 : Int32) (rr : Int32) (h : fX1_isOfKind N_posts N_neighbours p0 p1 = some rr) : Cti l yX1_isOfKind wsX1_isOfKind rmX1_isOfKind (dC, dI) (tyL cI cJ cZ cA) [(aN, .inr (1, [.ref aN_neighbours, .int N_posts])), (aN_neighbours, .inl (cI, 8, .inl N_neighbours))] [(aN, .inr (1, [.ref aN_neighbours, .int N_posts])), (aN_neighbours, .inl (cI, 8, .inl N_neighbours))] [.ref aN, .int p0, .int p1] rr := by
  refine ct_int (ty := .boolean) (cc := cX1_isOfKind) (maxL := 4) (by decide) rfl (Nat.le_of_ble_eq_true rfl) ?_
  intro p e s m args below meth c A Q ls hx hb hml hown hts hA hK hP hD hS hl hret
  have hl : lv_has ls 4 [(0, .ref aN), (1, .int p0), (2, .int p1)] := hl
  unfold fX1_isOfKind at h
  refine lv_aload_n hx hb dX1_isOfKind_0 rfl (lv_at hl 0 rfl) ?_
  refine lv_iload_n hx hb dX1_isOfKind_1 rfl (lv_at hl 1 rfl) ?_
  obtain ⟨r1, e2, h⟩ := bd1_s h
  refine kc_vi (rest := []) (wr := []) (wF := [(aN, .inr (1, [.ref aN_neighbours, .int N_posts])), (aN_neighbours, .inl (cI, 8, .inl N_neighbours))]) ⟨hx, hb, hml, hown, hts⟩ (c_X1_kindOf l dC dI cI cJ cZ cA aN aN_neighbours N_posts N_neighbours p0 r1 e2) (cwV 1 hts gX1_isOfKind_X1_kindOf rfl rfl rfl (by decide +kernel) ⟨Nat.le_of_ble_eq_true rfl, Nat.le_of_ble_eq_true rfl⟩) hK hP hD hS hA [0, 1] [] [0, 1] 0 rfl rfl rfl rfl (by decide) rfl rfl rfl rfl rfl rfl hl.1 rfl (Nat.le_of_ble_eq_true rfl) dX1_isOfKind_2 ⟨Nat.zero_le _, Nat.zero_le _⟩ (fun H locs hP hD hS => ?_)
  refine lv_istore_n (lv' := [(3, .int r1), (0, .ref aN), (1, .int p0), (2, .int p1)]) hx hb dX1_isOfKind_5 rfl hl (by decide) rfl (fun ls hl => ?_)
  refine lv_iload_n hx hb dX1_isOfKind_6 rfl (lv_at hl 3 rfl) ?_
  refine lv_if_eq (tgt := 25) hx hb dX1_isOfKind_7 (by decide) (fun c3 => ?_) (fun c3 => ?_)
  · have h := ift c3 h
    refine lv_iconst (v := 1) hx hb dX1_isOfKind_25 (by decide) ?_
    refine lv_goto (tgt := 30) hx hb dX1_isOfKind_26 (by decide) ?_
    obtain rfl := sj1 h
    exact hret _ _ _ _ _ rfl rfl hP hD hS dX1_isOfKind_30
  · have h := ifn c3 h
    refine lv_iload_n hx hb dX1_isOfKind_10 rfl (lv_at hl 3 rfl) ?_
    refine lv_iload_n hx hb dX1_isOfKind_11 rfl (lv_at hl 0 rfl) ?_
    refine lv_icmp_eq (tgt := 25) hx hb dX1_isOfKind_12 (by decide) (fun c4 => ?_) (fun c4 => ?_)
    · have h := ift c4 h
      refine lv_iconst (v := 1) hx hb dX1_isOfKind_25 (by decide) ?_
      refine lv_goto (tgt := 30) hx hb dX1_isOfKind_26 (by decide) ?_
      obtain rfl := sj1 h
      exact hret _ _ _ _ _ rfl rfl hP hD hS dX1_isOfKind_30
    · have h := ifn c4 h
      refine lv_iload_n hx hb dX1_isOfKind_15 rfl (lv_at hl 3 rfl) ?_
      refine lv_iconst (v := 1) hx hb dX1_isOfKind_16 (by decide) ?_
      refine lv_icmp_ne (tgt := 29) hx hb dX1_isOfKind_17 (by decide) (fun c5 => ?_) (fun c5 => ?_)
      · have h := ifn c5 h
        refine lv_iconst (v := 0) hx hb dX1_isOfKind_29 (by decide) ?_
        obtain rfl := sj1 h
        exact hret _ _ _ _ _ rfl rfl hP hD hS dX1_isOfKind_30
      · have h := ift c5 h
        refine lv_iload_n hx hb dX1_isOfKind_20 rfl (lv_at hl 0 rfl) ?_
        refine lv_iconst (v := 4) hx hb dX1_isOfKind_21 (by decide) ?_
        refine lv_icmp_eq (tgt := 29) hx hb dX1_isOfKind_22 (by decide) (fun c6 => ?_) (fun c6 => ?_)
        · have h := ift c6 h
          refine lv_iconst (v := 0) hx hb dX1_isOfKind_29 (by decide) ?_
          obtain rfl := sj1 h
          exact hret _ _ _ _ _ rfl rfl hP hD hS dX1_isOfKind_30
        · have h := ifn c6 h
          refine lv_iconst (v := 1) hx hb dX1_isOfKind_25 (by decide) ?_
          refine lv_goto (tgt := 30) hx hb dX1_isOfKind_26 (by decide) ?_
          obtain rfl := sj1 h
          exact hret _ _ _ _ _ rfl rfl hP hD hS dX1_isOfKind_30
set_option maxHeartbeats 4000000 in
set_option maxRecDepth 100000 in
theorem c_X1_countOf (l : Launch) (dC : Nat → ClassId) (dI : Nat → Nat → Nat) (cI cJ cZ cA : ClassId) (aN aN_neighbours : Nat) (N_posts : Int32) (N_neighbours : Nat → Int32) (p0 : Int32) (rr : Int32) (h : fX1_countOf N_posts N_neighbours p0 = some rr) : Cti l yX1_countOf wsX1_countOf rmX1_countOf (dC, dI) (tyL cI cJ cZ cA) [(aN, .inr (1, [.ref aN_neighbours, .int N_posts])), (aN_neighbours, .inl (cI, 8, .inl N_neighbours))] [(aN, .inr (1, [.ref aN_neighbours, .int N_posts])), (aN_neighbours, .inl (cI, 8, .inl N_neighbours))] [.ref aN, .int p0] rr := by
  refine ct_int (ty := .int) (cc := cX1_countOf) (maxL := 4) (by decide) rfl (Nat.le_of_ble_eq_true rfl) ?_
  intro p e s m args below meth c A Q ls hx hb hml hown hts hA hK hP hD hS hl hret
  have hl : lv_has ls 4 [(0, .ref aN), (1, .int p0)] := hl
  have k_0 := hts (.fieldLink RX1 15 "BeepNet$Net" "posts" "I") (by decide +kernel)
  have hiX1 : ∀ w ∈ u_ws RX1 TX1 2, w ∈ wsX1_countOf := fun w hw => List.mem_cons_of_mem _ (List.mem_append_right _ hw)
  have hC4 : ∀ (n : Nat) (x1 : Int32) (x2 : Int32) (x3 : Int32) (H : Heap) (locs : List Loc) (ls : Array Slot), fX1_countOf_c4 N_posts N_neighbours n x1 x2 x3 = some rr → va_P (dC, dI) vwCl [(aN, .inr (1, [.ref aN_neighbours, .int N_posts])), (aN_neighbours, .inl (cI, 8, .inl N_neighbours))] H → va_D A [(aN, .inr (1, [.ref aN_neighbours, .int N_posts])), (aN_neighbours, .inl (cI, 8, .inl N_neighbours))] → va_S A s.heap H locs → lv_has ls 4 [(0, .ref aN), (1, .int x1), (2, .int x2), (3, .int x3)] → W p l e rmX1_countOf s m args below meth c H locs 0 0 Q (F0 m 4 ls []) := by
    intro n
    induction n with
    | zero => intro x1 x2 x3 H locs ls h; rw [fX1_countOf_c4] at h; cases h
    | succ n4 ih4 =>
      intro x1 x2 x3 H locs ls h hP hD hS hl
      rw [fX1_countOf_c4] at h
      refine lv_iload_n hx hb dX1_countOf_4 rfl (lv_at hl 3 rfl) ?_
      refine lv_aload_n hx hb dX1_countOf_5 rfl (lv_at hl 0 rfl) ?_
      refine ka_get (v := .int N_posts) (C := RX1) (T := TX1) (Nf := 2) (ref := "BeepNet$Net") hx hb hts hiX1 hown hK hP 0 rfl rfl 1 (by decide) k_0 rfl rfl dX1_countOf_6 ?_
      refine lv_icmp_ge (tgt := 35) hx hb dX1_countOf_9 (by decide) (fun c501 => ?_) (fun c501 => ?_)
      · have h := ift c501 h
        refine lv_iload_n hx hb dX1_countOf_35 rfl (lv_at hl 2 rfl) ?_
        obtain rfl := sj1 h
        exact hret _ _ _ _ _ rfl rfl hP hD hS dX1_countOf_36
      · have h := ifn c501 h
        refine lv_iload_n hx hb dX1_countOf_12 rfl (lv_at hl 2 rfl) ?_
        refine lv_aload_n hx hb dX1_countOf_13 rfl (lv_at hl 0 rfl) ?_
        refine lv_iload_n hx hb dX1_countOf_14 rfl (lv_at hl 3 rfl) ?_
        obtain ⟨r502, e503, h⟩ := bd1_s h
        refine kc_vi (rest := [.int x2]) (wr := []) (wF := [(aN, .inr (1, [.ref aN_neighbours, .int N_posts])), (aN_neighbours, .inl (cI, 8, .inl N_neighbours))]) ⟨hx, hb, hml, hown, hts⟩ (c_X1_kindOf l dC dI cI cJ cZ cA aN aN_neighbours N_posts N_neighbours x3 r502 e503) (cwV 1 hts gX1_countOf_X1_kindOf rfl rfl rfl (by decide +kernel) ⟨Nat.le_of_ble_eq_true rfl, Nat.le_of_ble_eq_true rfl⟩) hK hP hD hS hA [0, 1] [] [0, 1] 0 rfl rfl rfl rfl (by decide) rfl rfl rfl rfl rfl rfl hl.1 rfl (Nat.le_of_ble_eq_true rfl) dX1_countOf_15 ⟨Nat.zero_le _, Nat.zero_le _⟩ (fun H locs hP hD hS => ?_)
        refine lv_iload_n hx hb dX1_countOf_18 rfl (lv_at hl 1 rfl) ?_
        refine lv_icmp_ne (tgt := 26) hx hb dX1_countOf_19 (by decide) (fun c504 => ?_) (fun c504 => ?_)
        · have h := ifn c504 h
          refine lv_iconst (v := 0) hx hb dX1_countOf_26 (by decide) ?_
          refine lv_iadd hx hb dX1_countOf_27 ?_
          refine lv_istore_n (lv' := [(2, .int (x2 + (0 : Int32))), (0, .ref aN), (1, .int x1), (3, .int x3)]) hx hb dX1_countOf_28 rfl hl (by decide) rfl (fun ls hl => ?_)
          refine lv_iinc (v := x3 + 1) (lv' := [(3, .int (x3 + 1)), (2, .int (x2 + (0 : Int32))), (0, .ref aN), (1, .int x1)]) hx hb dX1_countOf_29 hl (k := 3) rfl rfl (by decide) rfl (fun ls hl => ?_)
          refine lv_goto (tgt := 4) hx hb dX1_countOf_32 (by decide) ?_
          exact ih4 x1 (x2 + (0 : Int32)) (x3 + 1) _ _ _ h hP hD hS (lv_sub hl [2, 3, 1, 0] rfl)
        · have h := ift c504 h
          refine lv_iconst (v := 1) hx hb dX1_countOf_22 (by decide) ?_
          refine lv_goto (tgt := 27) hx hb dX1_countOf_23 (by decide) ?_
          refine lv_iadd hx hb dX1_countOf_27 ?_
          refine lv_istore_n (lv' := [(2, .int (x2 + (1 : Int32))), (0, .ref aN), (1, .int x1), (3, .int x3)]) hx hb dX1_countOf_28 rfl hl (by decide) rfl (fun ls hl => ?_)
          refine lv_iinc (v := x3 + 1) (lv' := [(3, .int (x3 + 1)), (2, .int (x2 + (1 : Int32))), (0, .ref aN), (1, .int x1)]) hx hb dX1_countOf_29 hl (k := 3) rfl rfl (by decide) rfl (fun ls hl => ?_)
          refine lv_goto (tgt := 4) hx hb dX1_countOf_32 (by decide) ?_
          exact ih4 x1 (x2 + (1 : Int32)) (x3 + 1) _ _ _ h hP hD hS (lv_sub hl [2, 3, 1, 0] rfl)
  unfold fX1_countOf at h
  refine lv_iconst (v := 0) hx hb dX1_countOf_0 (by decide) ?_
  refine lv_istore_n (lv' := [(2, .int 0), (0, .ref aN), (1, .int p0)]) hx hb dX1_countOf_1 rfl hl (by decide) rfl (fun ls hl => ?_)
  refine lv_iconst (v := 0) hx hb dX1_countOf_2 (by decide) ?_
  refine lv_istore_n (lv' := [(3, .int 0), (2, .int 0), (0, .ref aN), (1, .int p0)]) hx hb dX1_countOf_3 rfl hl (by decide) rfl (fun ls hl => ?_)
  exact hC4 FU p0 0 0 _ _ _ h hP hD hS (lv_sub hl [2, 3, 1, 0] rfl)
