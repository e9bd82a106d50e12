set_option maxHeartbeats 4000000 in
set_option maxRecDepth 100000 in
theorem c_X7_picks (l : Launch) (dC : Nat → ClassId) (dI : Nat → Nat → Nat) (cI cJ cZ cA : ClassId) (aM aM_lane aM_many aM_item aM_beside aM_round aM_reads aM_tape aM_fewest aM_may aM_then aM_cases aM_next aM_trace : Nat) (M_thrown : Int32) (M_status : Int32) (M_posts : Int32) (M_rounds : Int32) (M_read : Int32) (M_taped : Int32) (M_latest : Int32) (M_length : Int32) (M_at : Int32) (M_sort : Int32) (M_from : Int32) (M_till : Int32) (M_fault : Int32) (M_faultAt : Int32) (M_traced : Int32) (M_lane : Nat → Int32) (M_many : Nat → Int32) (M_item : Nat → Int32) (p0 : Int32) (p1 : Int32) (p2 : Int32) (p3 : Int32) (p4 : Int32) (rr : Int32) (M_thrown_z : Int32) (M_status_z : Int32) (h : fX7_picks M_thrown M_status M_posts M_lane M_many M_item p0 p1 p2 p3 p4 = some (rr, M_thrown_z, M_status_z)) : Cti l yX7_picks wsX7_picks rmX7_picks (dC, dI) (tyL cI cJ cZ cA) [(aM, .inr (7, [.int M_thrown, .int M_status, .ref aM_lane, .ref aM_many, .ref aM_item, .int M_posts, .ref aM_beside, .int M_rounds, .ref aM_round, .int M_read, .ref aM_reads, .ref aM_tape, .int M_taped, .int M_latest, .int M_length, .int M_at, .int M_sort, .int M_from, .int M_till, .int M_fault, .int M_faultAt, .ref aM_fewest, .ref aM_may, .ref aM_then, .ref aM_cases, .ref aM_next, .ref aM_trace, .int M_traced])), (aM_lane, .inl (cI, 8, .inl M_lane)), (aM_many, .inl (cI, 8, .inl M_many)), (aM_item, .inl (cI, 320, .inl M_item))] [(aM, .inr (7, [.int M_thrown_z, .int M_status_z, .ref aM_lane, .ref aM_many, .ref aM_item, .int M_posts, .ref aM_beside, .int M_rounds, .ref aM_round, .int M_read, .ref aM_reads, .ref aM_tape, .int M_taped, .int M_latest, .int M_length, .int M_at, .int M_sort, .int M_from, .int M_till, .int M_fault, .int M_faultAt, .ref aM_fewest, .ref aM_may, .ref aM_then, .ref aM_cases, .ref aM_next, .ref aM_trace, .int M_traced])), (aM_lane, .inl (cI, 8, .inl M_lane)), (aM_many, .inl (cI, 8, .inl M_many)), (aM_item, .inl (cI, 320, .inl M_item))] [.ref aM, .int p0, .int p1, .int p2, .int p3, .int p4] rr := by
  refine ct_int (ty := .int) (cc := cX7_picks) (maxL := 9) (by decide) rfl (Nat.le_of_ble_eq_true rfl) ?_
  intro p e s m args below meth c A Q ls hx hb hml hown hts hA hK hP hD hS hl hret
  have hl : lv_has ls 9 [(0, .ref aM), (1, .int p0), (2, .int p1), (3, .int p2), (4, .int p3), (5, .int p4)] := hl
  have k_0 := hts (.fieldLink RX7 16 "BeepNetModel" "item" "[I") (by decide +kernel)
  have k_1 := hts (.constant RX7 86 (-1000000)) (by decide +kernel)
  have k_2 := hts (.fieldLink RX7 51 "BeepNetModel" "thrown" "I") (by decide +kernel)
  have k_3 := hts (.constant RX7 71 (-1000001)) (by decide +kernel)
  have k_4 := hts (.constantLong RX7 204 (40)) (by decide +kernel)
  have k_5 := hts (.constantLong RX7 206 (4)) (by decide +kernel)
  have k_6 := hts (.fieldLink RX7 55 "BeepNetModel" "status" "I") (by decide +kernel)
  have k_7 := hts (.fieldLink RX7 7 "BeepNetModel" "lane" "[I") (by decide +kernel)
  have k_8 := hts (.fieldLink RX7 13 "BeepNetModel" "many" "[I") (by decide +kernel)
  have hiX7 : ∀ w ∈ u_ws RX7 TX7 28, w ∈ wsX7_picks := fun w hw => List.mem_cons_of_mem _ (List.mem_append_right _ hw)
  have hC100 : ∀ (n : Nat) (M_thrown : Int32) (M_status : Int32) (x1 : Int32) (x2 : Int32) (x3 : Int32) (x4 : Int32) (x5 : Int32) (x6 : Int32) (H : Heap) (locs : List Loc) (ls : Array Slot), fX7_picks_c100 M_posts M_lane M_many M_item n M_thrown M_status x1 x2 x3 x4 x5 x6 = some (rr, M_thrown_z, M_status_z) → va_P (dC, dI) vwCl [(aM, .inr (7, [.int M_thrown, .int M_status, .ref aM_lane, .ref aM_many, .ref aM_item, .int M_posts, .ref aM_beside, .int M_rounds, .ref aM_round, .int M_read, .ref aM_reads, .ref aM_tape, .int M_taped, .int M_latest, .int M_length, .int M_at, .int M_sort, .int M_from, .int M_till, .int M_fault, .int M_faultAt, .ref aM_fewest, .ref aM_may, .ref aM_then, .ref aM_cases, .ref aM_next, .ref aM_trace, .int M_traced])), (aM_lane, .inl (cI, 8, .inl M_lane)), (aM_many, .inl (cI, 8, .inl M_many)), (aM_item, .inl (cI, 320, .inl M_item))] H → va_D A [(aM, .inr (7, [.int M_thrown, .int M_status, .ref aM_lane, .ref aM_many, .ref aM_item, .int M_posts, .ref aM_beside, .int M_rounds, .ref aM_round, .int M_read, .ref aM_reads, .ref aM_tape, .int M_taped, .int M_latest, .int M_length, .int M_at, .int M_sort, .int M_from, .int M_till, .int M_fault, .int M_faultAt, .ref aM_fewest, .ref aM_may, .ref aM_then, .ref aM_cases, .ref aM_next, .ref aM_trace, .int M_traced])), (aM_lane, .inl (cI, 8, .inl M_lane)), (aM_many, .inl (cI, 8, .inl M_many)), (aM_item, .inl (cI, 320, .inl M_item))] → va_S A s.heap H locs → lv_has ls 9 [(0, .ref aM), (1, .int x1), (2, .int x2), (3, .int x3), (4, .int x4), (5, .int x5), (6, .int x6)] → W p l e rmX7_picks s m args below meth c H locs 0 0 Q (F0 m 100 ls []) := by
    intro n
    induction n with
    | zero => intro M_thrown M_status x1 x2 x3 x4 x5 x6 H locs ls h; rw [fX7_picks_c100] at h; cases h
    | succ n100 ih100 =>
      have hC125 : ∀ (n : Nat) (M_thrown : Int32) (M_status : Int32) (x1 : Int32) (x2 : Int32) (x3 : Int32) (x4 : Int32) (x5 : Int32) (x6 : Int32) (x7 : Int32) (x8 : Int32) (H : Heap) (locs : List Loc) (ls : Array Slot), fX7_picks_c125 M_posts M_lane M_many M_item (fX7_picks_c100 M_posts M_lane M_many M_item n100) n M_thrown M_status x1 x2 x3 x4 x5 x6 x7 x8 = some (rr, M_thrown_z, M_status_z) → va_P (dC, dI) vwCl [(aM, .inr (7, [.int M_thrown, .int M_status, .ref aM_lane, .ref aM_many, .ref aM_item, .int M_posts, .ref aM_beside, .int M_rounds, .ref aM_round, .int M_read, .ref aM_reads, .ref aM_tape, .int M_taped, .int M_latest, .int M_length, .int M_at, .int M_sort, .int M_from, .int M_till, .int M_fault, .int M_faultAt, .ref aM_fewest, .ref aM_may, .ref aM_then, .ref aM_cases, .ref aM_next, .ref aM_trace, .int M_traced])), (aM_lane, .inl (cI, 8, .inl M_lane)), (aM_many, .inl (cI, 8, .inl M_many)), (aM_item, .inl (cI, 320, .inl M_item))] H → va_D A [(aM, .inr (7, [.int M_thrown, .int M_status, .ref aM_lane, .ref aM_many, .ref aM_item, .int M_posts, .ref aM_beside, .int M_rounds, .ref aM_round, .int M_read, .ref aM_reads, .ref aM_tape, .int M_taped, .int M_latest, .int M_length, .int M_at, .int M_sort, .int M_from, .int M_till, .int M_fault, .int M_faultAt, .ref aM_fewest, .ref aM_may, .ref aM_then, .ref aM_cases, .ref aM_next, .ref aM_trace, .int M_traced])), (aM_lane, .inl (cI, 8, .inl M_lane)), (aM_many, .inl (cI, 8, .inl M_many)), (aM_item, .inl (cI, 320, .inl M_item))] → va_S A s.heap H locs → lv_has ls 9 [(0, .ref aM), (1, .int x1), (2, .int x2), (3, .int x3), (4, .int x4), (5, .int x5), (6, .int x6), (7, .int x7), (8, .int x8)] → W p l e rmX7_picks s m args below meth c H locs 0 0 Q (F0 m 125 ls []) := by
        intro n
        induction n with
        | zero => intro M_thrown M_status x1 x2 x3 x4 x5 x6 x7 x8 H locs ls h; rw [fX7_picks_c125] at h; cases h
        | succ n125 ih125 =>
          have hC160 : ∀ (M_thrown : Int32) (M_status : Int32) (x1 : Int32) (x2 : Int32) (x3 : Int32) (x4 : Int32) (x5 : Int32) (x6 : Int32) (x8 : Int32) (H : Heap) (locs : List Loc) (ls : Array Slot), fX7_picks_c160 M_posts M_lane M_many M_item (fX7_picks_c100 M_posts M_lane M_many M_item n100) (fX7_picks_c125 M_posts M_lane M_many M_item (fX7_picks_c100 M_posts M_lane M_many M_item n100) n125) M_thrown M_status x1 x2 x3 x4 x5 x6 x8 = some (rr, M_thrown_z, M_status_z) → va_P (dC, dI) vwCl [(aM, .inr (7, [.int M_thrown, .int M_status, .ref aM_lane, .ref aM_many, .ref aM_item, .int M_posts, .ref aM_beside, .int M_rounds, .ref aM_round, .int M_read, .ref aM_reads, .ref aM_tape, .int M_taped, .int M_latest, .int M_length, .int M_at, .int M_sort, .int M_from, .int M_till, .int M_fault, .int M_faultAt, .ref aM_fewest, .ref aM_may, .ref aM_then, .ref aM_cases, .ref aM_next, .ref aM_trace, .int M_traced])), (aM_lane, .inl (cI, 8, .inl M_lane)), (aM_many, .inl (cI, 8, .inl M_many)), (aM_item, .inl (cI, 320, .inl M_item))] H → va_D A [(aM, .inr (7, [.int M_thrown, .int M_status, .ref aM_lane, .ref aM_many, .ref aM_item, .int M_posts, .ref aM_beside, .int M_rounds, .ref aM_round, .int M_read, .ref aM_reads, .ref aM_tape, .int M_taped, .int M_latest, .int M_length, .int M_at, .int M_sort, .int M_from, .int M_till, .int M_fault, .int M_faultAt, .ref aM_fewest, .ref aM_may, .ref aM_then, .ref aM_cases, .ref aM_next, .ref aM_trace, .int M_traced])), (aM_lane, .inl (cI, 8, .inl M_lane)), (aM_many, .inl (cI, 8, .inl M_many)), (aM_item, .inl (cI, 320, .inl M_item))] → va_S A s.heap H locs → lv_has ls 9 [(0, .ref aM), (1, .int x1), (2, .int x2), (3, .int x3), (4, .int x4), (5, .int x5), (6, .int x6), (8, .int x8)] → W p l e rmX7_picks s m args below meth c H locs 0 0 Q (F0 m 160 ls []) := by
            intro M_thrown M_status x1 x2 x3 x4 x5 x6 x8 H locs ls h hP hD hS hl
            unfold fX7_picks_c160 at h
            refine lv_iconst (v := 1) hx hb dX7_picks_160 (by decide) ?_
            refine lv_goto (tgt := 165) hx hb dX7_picks_161 (by decide) ?_
            refine lv_istore (lv' := [(7, .int 1), (0, .ref aM), (1, .int x1), (2, .int x2), (3, .int x3), (4, .int x4), (5, .int x5), (6, .int x6), (8, .int x8)]) hx hb dX7_picks_165 hl (by decide) rfl (fun ls hl => ?_)
            refine lv_iinc (v := x8 + 1) (lv' := [(8, .int (x8 + 1)), (7, .int 1), (0, .ref aM), (1, .int x1), (2, .int x2), (3, .int x3), (4, .int x4), (5, .int x5), (6, .int x6)]) hx hb dX7_picks_167 hl (k := 8) rfl rfl (by decide) rfl (fun ls hl => ?_)
            refine lv_goto (tgt := 125) hx hb dX7_picks_170 (by decide) ?_
            exact ih125 M_thrown M_status x1 x2 x3 x4 x5 x6 1 (x8 + 1) _ _ _ h hP hD hS (lv_sub hl [2, 3, 4, 5, 6, 7, 8, 1, 0] rfl)
          intro M_thrown M_status x1 x2 x3 x4 x5 x6 x7 x8 H locs ls h hP hD hS hl
          rw [fX7_picks_c125] at h
          refine lv_iload hx hb dX7_picks_125 (lv_at hl 8 rfl) ?_
          refine lv_iload_n hx hb dX7_picks_127 rfl (lv_at hl 3 rfl) ?_
          refine lv_icmp_ge (tgt := 173) hx hb dX7_picks_128 (by decide) (fun c12601 => ?_) (fun c12601 => ?_)
          · have h := ift c12601 h
            refine lv_iload hx hb dX7_picks_173 (lv_at hl 7 rfl) ?_
            refine lv_if_ne (tgt := 190) hx hb dX7_picks_175 (by decide) (fun c12602 => ?_) (fun c12602 => ?_)
            · have h := ifn c12602 h
              refine lv_iinc (v := x6 + 1) (lv' := [(6, .int (x6 + 1)), (0, .ref aM), (1, .int x1), (2, .int x2), (3, .int x3), (4, .int x4), (5, .int x5), (7, .int x7), (8, .int x8)]) hx hb dX7_picks_190 hl (k := 6) rfl rfl (by decide) rfl (fun ls hl => ?_)
              refine lv_goto (tgt := 100) hx hb dX7_picks_193 (by decide) ?_
              exact ih100 M_thrown M_status x1 x2 x3 x4 x5 (x6 + 1) _ _ _ h hP hD hS (lv_sub hl [1, 2, 3, 4, 5, 6, 0] rfl)
            · have h := ift c12602 h
              refine lv_iload hx hb dX7_picks_178 (lv_at hl 5 rfl) ?_
              refine lv_if_ne (tgt := 187) hx hb dX7_picks_180 (by decide) (fun c12603 => ?_) (fun c12603 => ?_)
              · have h := ifn c12603 h
                refine lv_iload hx hb dX7_picks_187 (lv_at hl 6 rfl) ?_
                obtain ⟨rfl, rfl, rfl⟩ := sj3 h
                exact hret _ _ _ _ _ rfl rfl hP hD hS dX7_picks_189
              · have h := ift c12603 h
                refine lv_iconst (v := 0) hx hb dX7_picks_183 (by decide) ?_
                refine lv_goto (tgt := 189) hx hb dX7_picks_184 (by decide) ?_
                obtain ⟨rfl, rfl, rfl⟩ := sj3 h
                exact hret _ _ _ _ _ rfl rfl hP hD hS dX7_picks_189
          · have h := ifn c12601 h
            refine lv_iload hx hb dX7_picks_131 (lv_at hl 7 rfl) ?_
            refine lv_if_ne (tgt := 160) hx hb dX7_picks_133 (by decide) (fun c12604 => ?_) (fun c12604 => ?_)
            · have h := ifn c12604 h
              exact hC160 M_thrown M_status x1 x2 x3 x4 x5 x6 x8 _ _ _ h hP hD hS (lv_sub hl [0, 1, 2, 3, 4, 5, 6, 8] rfl)
            · have h := ift c12604 h
              refine lv_aload_n hx hb dX7_picks_136 rfl (lv_at hl 0 rfl) ?_
              refine ka_get (v := .ref aM_item) (C := RX7) (T := TX7) (Nf := 28) (ref := "BeepNetModel") hx hb hts hiX7 hown hK hP 0 rfl rfl 4 (by decide) k_0 rfl rfl dX7_picks_137 ?_
              refine lv_bipush (v := 40) hx hb dX7_picks_140 (by decide) ?_
              refine lv_iload_n hx hb dX7_picks_142 rfl (lv_at hl 1 rfl) ?_
              refine lv_imul hx hb dX7_picks_143 ?_
              refine lv_iload_n hx hb dX7_picks_144 rfl (lv_at hl 2 rfl) ?_
              refine lv_iadd hx hb dX7_picks_145 ?_
              refine lv_iload hx hb dX7_picks_146 (lv_at hl 8 rfl) ?_
              refine lv_iadd hx hb dX7_picks_148 ?_
              obtain ⟨v12605, ev12605, hn12606, h⟩ := ldx_s h
              refine ka_ild hx hb hK hP 3 0 ev12605 rfl rfl hn12606 dX7_picks_149 ?_
              refine lv_iload hx hb dX7_picks_150 (lv_at hl 6 rfl) ?_
              refine lv_iand hx hb dX7_picks_152 ?_
              obtain ⟨r12607, e12608, h⟩ := bd1_s h
              refine kc_si (rest := []) (wr := [(aM, .inr (7, [.int M_thrown, .int M_status, .ref aM_lane, .ref aM_many, .ref aM_item, .int M_posts, .ref aM_beside, .int M_rounds, .ref aM_round, .int M_read, .ref aM_reads, .ref aM_tape, .int M_taped, .int M_latest, .int M_length, .int M_at, .int M_sort, .int M_from, .int M_till, .int M_fault, .int M_faultAt, .ref aM_fewest, .ref aM_may, .ref aM_then, .ref aM_cases, .ref aM_next, .ref aM_trace, .int M_traced])), (aM_lane, .inl (cI, 8, .inl M_lane)), (aM_many, .inl (cI, 8, .inl M_many)), (aM_item, .inl (cI, 320, .inl M_item))]) (wF := [(aM, .inr (7, [.int M_thrown, .int M_status, .ref aM_lane, .ref aM_many, .ref aM_item, .int M_posts, .ref aM_beside, .int M_rounds, .ref aM_round, .int M_read, .ref aM_reads, .ref aM_tape, .int M_taped, .int M_latest, .int M_length, .int M_at, .int M_sort, .int M_from, .int M_till, .int M_fault, .int M_faultAt, .ref aM_fewest, .ref aM_may, .ref aM_then, .ref aM_cases, .ref aM_next, .ref aM_trace, .int M_traced])), (aM_lane, .inl (cI, 8, .inl M_lane)), (aM_many, .inl (cI, 8, .inl M_many)), (aM_item, .inl (cI, 320, .inl M_item))]) ⟨hx, hb, hml, hown, hts⟩ (c_X7_size l dC dI cI cJ cZ cA (v12605 &&& x6) r12607 e12608) (va_cwS 1 hts gX7_picks_X7_size rfl rfl rfl (by decide +kernel) ⟨Nat.le_of_ble_eq_true rfl, Nat.le_of_ble_eq_true rfl⟩) hK hP hD hS hA [] [0, 1, 2, 3] [0, 1, 2, 3] rfl rfl rfl rfl (by decide) rfl rfl rfl hl.1 rfl (Nat.le_of_ble_eq_true rfl) dX7_picks_153 ⟨Nat.zero_le _, Nat.zero_le _⟩ (fun H locs hP hD hS => ?_)
              refine lv_iconst (v := 1) hx hb dX7_picks_156 (by decide) ?_
              refine lv_icmp_ne (tgt := 164) hx hb dX7_picks_157 (by decide) (fun c12609 => ?_) (fun c12609 => ?_)
              · have h := ifn c12609 h
                refine lv_iconst (v := 0) hx hb dX7_picks_164 (by decide) ?_
                refine lv_istore (lv' := [(7, .int 0), (0, .ref aM), (1, .int x1), (2, .int x2), (3, .int x3), (4, .int x4), (5, .int x5), (6, .int x6), (8, .int x8)]) hx hb dX7_picks_165 hl (by decide) rfl (fun ls hl => ?_)
                refine lv_iinc (v := x8 + 1) (lv' := [(8, .int (x8 + 1)), (7, .int 0), (0, .ref aM), (1, .int x1), (2, .int x2), (3, .int x3), (4, .int x4), (5, .int x5), (6, .int x6)]) hx hb dX7_picks_167 hl (k := 8) rfl rfl (by decide) rfl (fun ls hl => ?_)
                refine lv_goto (tgt := 125) hx hb dX7_picks_170 (by decide) ?_
                exact ih125 M_thrown M_status x1 x2 x3 x4 x5 x6 0 (x8 + 1) _ _ _ h hP hD hS (lv_sub hl [2, 3, 4, 5, 6, 7, 8, 1, 0] rfl)
              · have h := ift c12609 h
                exact hC160 M_thrown M_status x1 x2 x3 x4 x5 x6 x8 _ _ _ h hP hD hS (lv_sub hl [0, 1, 2, 3, 4, 5, 6, 8] rfl)
      intro M_thrown M_status x1 x2 x3 x4 x5 x6 H locs ls h hP hD hS hl
      rw [fX7_picks_c100] at h
      refine lv_iload hx hb dX7_picks_100 (lv_at hl 6 rfl) ?_
      refine lv_aload_n hx hb dX7_picks_102 rfl (lv_at hl 0 rfl) ?_
      obtain ⟨r10101, e10102, h⟩ := bd1_s h
      refine kc_vi (rest := [.int x6]) (wr := [(aM_lane, .inl (cI, 8, .inl M_lane)), (aM_many, .inl (cI, 8, .inl M_many)), (aM_item, .inl (cI, 320, .inl M_item))]) (wF := [(aM, .inr (7, [.int M_thrown, .int M_status, .ref aM_lane, .ref aM_many, .ref aM_item, .int M_posts, .ref aM_beside, .int M_rounds, .ref aM_round, .int M_read, .ref aM_reads, .ref aM_tape, .int M_taped, .int M_latest, .int M_length, .int M_at, .int M_sort, .int M_from, .int M_till, .int M_fault, .int M_faultAt, .ref aM_fewest, .ref aM_may, .ref aM_then, .ref aM_cases, .ref aM_next, .ref aM_trace, .int M_traced])), (aM_lane, .inl (cI, 8, .inl M_lane)), (aM_many, .inl (cI, 8, .inl M_many)), (aM_item, .inl (cI, 320, .inl M_item))]) ⟨hx, hb, hml, hown, hts⟩ (c_X7_all l dC dI cI cJ cZ cA aM aM_lane aM_many aM_item aM_beside aM_round aM_reads aM_tape aM_fewest aM_may aM_then aM_cases aM_next aM_trace M_thrown M_status M_posts M_rounds M_read M_taped M_latest M_length M_at M_sort M_from M_till M_fault M_faultAt M_traced r10101 e10102) (cwV 0 hts gX7_picks_X7_all rfl rfl rfl (by decide +kernel) ⟨Nat.le_of_ble_eq_true rfl, Nat.le_of_ble_eq_true rfl⟩) hK hP hD hS hA [0] [1, 2, 3] [3, 0, 1, 2] 0 rfl rfl rfl rfl (by decide) rfl rfl rfl rfl rfl rfl hl.1 rfl (Nat.le_of_ble_eq_true rfl) dX7_picks_103 ⟨Nat.zero_le _, Nat.zero_le _⟩ (fun H locs hP hD hS => ?_)
      refine lv_icmp_gt (tgt := 196) hx hb dX7_picks_106 (by decide) (fun c10103 => ?_) (fun c10103 => ?_)
      · have h := ift c10103 h
        refine lv_iload hx hb dX7_picks_196 (lv_at hl 5 rfl) ?_
        refine lv_if_ne (tgt := 205) hx hb dX7_picks_198 (by decide) (fun c10104 => ?_) (fun c10104 => ?_)
        · have h := ifn c10104 h
          refine lv_ldc hx hb hown k_1 dX7_picks_205 ?_
          obtain ⟨rfl, rfl, rfl⟩ := sj3 h
          exact hret _ _ _ _ _ rfl rfl hP hD hS dX7_picks_207
        · have h := ift c10104 h
          refine lv_iconst (v := 1) hx hb dX7_picks_201 (by decide) ?_
          refine lv_goto (tgt := 207) hx hb dX7_picks_202 (by decide) ?_
          obtain ⟨rfl, rfl, rfl⟩ := sj3 h
          exact hret _ _ _ _ _ rfl rfl hP hD hS dX7_picks_207
      · have h := ifn c10103 h
        refine lv_iload hx hb dX7_picks_109 (lv_at hl 6 rfl) ?_
        obtain ⟨r10105, e10106, h⟩ := bd1_s h
        refine kc_si (rest := []) (wr := [(aM, .inr (7, [.int M_thrown, .int M_status, .ref aM_lane, .ref aM_many, .ref aM_item, .int M_posts, .ref aM_beside, .int M_rounds, .ref aM_round, .int M_read, .ref aM_reads, .ref aM_tape, .int M_taped, .int M_latest, .int M_length, .int M_at, .int M_sort, .int M_from, .int M_till, .int M_fault, .int M_faultAt, .ref aM_fewest, .ref aM_may, .ref aM_then, .ref aM_cases, .ref aM_next, .ref aM_trace, .int M_traced])), (aM_lane, .inl (cI, 8, .inl M_lane)), (aM_many, .inl (cI, 8, .inl M_many)), (aM_item, .inl (cI, 320, .inl M_item))]) (wF := [(aM, .inr (7, [.int M_thrown, .int M_status, .ref aM_lane, .ref aM_many, .ref aM_item, .int M_posts, .ref aM_beside, .int M_rounds, .ref aM_round, .int M_read, .ref aM_reads, .ref aM_tape, .int M_taped, .int M_latest, .int M_length, .int M_at, .int M_sort, .int M_from, .int M_till, .int M_fault, .int M_faultAt, .ref aM_fewest, .ref aM_may, .ref aM_then, .ref aM_cases, .ref aM_next, .ref aM_trace, .int M_traced])), (aM_lane, .inl (cI, 8, .inl M_lane)), (aM_many, .inl (cI, 8, .inl M_many)), (aM_item, .inl (cI, 320, .inl M_item))]) ⟨hx, hb, hml, hown, hts⟩ (c_X7_size l dC dI cI cJ cZ cA x6 r10105 e10106) (va_cwS 1 hts gX7_picks_X7_size rfl rfl rfl (by decide +kernel) ⟨Nat.le_of_ble_eq_true rfl, Nat.le_of_ble_eq_true rfl⟩) hK hP hD hS hA [] [0, 1, 2, 3] [0, 1, 2, 3] rfl rfl rfl rfl (by decide) rfl rfl rfl hl.1 rfl (Nat.le_of_ble_eq_true rfl) dX7_picks_111 ⟨Nat.zero_le _, Nat.zero_le _⟩ (fun H locs hP hD hS => ?_)
        refine lv_iload hx hb dX7_picks_114 (lv_at hl 4 rfl) ?_
        refine lv_icmp_gt (tgt := 190) hx hb dX7_picks_116 (by decide) (fun c10107 => ?_) (fun c10107 => ?_)
        · have h := ift c10107 h
          refine lv_iinc (v := x6 + 1) (lv' := [(6, .int (x6 + 1)), (0, .ref aM), (1, .int x1), (2, .int x2), (3, .int x3), (4, .int x4), (5, .int x5)]) hx hb dX7_picks_190 hl (k := 6) rfl rfl (by decide) rfl (fun ls hl => ?_)
          refine lv_goto (tgt := 100) hx hb dX7_picks_193 (by decide) ?_
          exact ih100 M_thrown M_status x1 x2 x3 x4 x5 (x6 + 1) _ _ _ h hP hD hS (lv_sub hl [1, 2, 3, 4, 5, 6, 0] rfl)
        · have h := ifn c10107 h
          refine lv_iconst (v := 0) hx hb dX7_picks_119 (by decide) ?_
          refine lv_istore (lv' := [(7, .int 0), (0, .ref aM), (1, .int x1), (2, .int x2), (3, .int x3), (4, .int x4), (5, .int x5), (6, .int x6)]) hx hb dX7_picks_120 hl (by decide) rfl (fun ls hl => ?_)
          refine lv_iconst (v := 0) hx hb dX7_picks_122 (by decide) ?_
          refine lv_istore (lv' := [(8, .int 0), (7, .int 0), (0, .ref aM), (1, .int x1), (2, .int x2), (3, .int x3), (4, .int x4), (5, .int x5), (6, .int x6)]) hx hb dX7_picks_123 hl (by decide) rfl (fun ls hl => ?_)
          exact hC125 FU M_thrown M_status x1 x2 x3 x4 x5 x6 0 0 _ _ _ h hP hD hS (lv_sub hl [2, 3, 4, 5, 6, 7, 8, 1, 0] rfl)
  unfold fX7_picks at h
  refine lv_aload_n hx hb dX7_picks_0 rfl (lv_at hl 0 rfl) ?_
  refine lv_iconst (v := 0) hx hb dX7_picks_1 (by decide) ?_
  refine ka_put (w1 := [(aM, .inr (7, [.int 0, .int M_status, .ref aM_lane, .ref aM_many, .ref aM_item, .int M_posts, .ref aM_beside, .int M_rounds, .ref aM_round, .int M_read, .ref aM_reads, .ref aM_tape, .int M_taped, .int M_latest, .int M_length, .int M_at, .int M_sort, .int M_from, .int M_till, .int M_fault, .int M_faultAt, .ref aM_fewest, .ref aM_may, .ref aM_then, .ref aM_cases, .ref aM_next, .ref aM_trace, .int M_traced])), (aM_lane, .inl (cI, 8, .inl M_lane)), (aM_many, .inl (cI, 8, .inl M_many)), (aM_item, .inl (cI, 320, .inl M_item))]) (C := RX7) (T := TX7) (Nf := 28) (ref := "BeepNetModel") hx hb hts hiX7 tyX7 tyX7_ok nmX7 hown hK hP hD hS 0 rfl rfl 0 (by decide) k_2 rfl rfl rfl (Nat.le_of_ble_eq_true rfl) dX7_picks_2 rfl (fun H locs hP hD hS => ?_)
  refine lv_iload_n hx hb dX7_picks_5 rfl (lv_at hl 1 rfl) ?_
  obtain ⟨r1, e2, h⟩ := bd1_s h
  refine kc_si (rest := []) (wr := [(aM, .inr (7, [.int 0, .int M_status, .ref aM_lane, .ref aM_many, .ref aM_item, .int M_posts, .ref aM_beside, .int M_rounds, .ref aM_round, .int M_read, .ref aM_reads, .ref aM_tape, .int M_taped, .int M_latest, .int M_length, .int M_at, .int M_sort, .int M_from, .int M_till, .int M_fault, .int M_faultAt, .ref aM_fewest, .ref aM_may, .ref aM_then, .ref aM_cases, .ref aM_next, .ref aM_trace, .int M_traced])), (aM_lane, .inl (cI, 8, .inl M_lane)), (aM_many, .inl (cI, 8, .inl M_many)), (aM_item, .inl (cI, 320, .inl M_item))]) (wF := [(aM, .inr (7, [.int 0, .int M_status, .ref aM_lane, .ref aM_many, .ref aM_item, .int M_posts, .ref aM_beside, .int M_rounds, .ref aM_round, .int M_read, .ref aM_reads, .ref aM_tape, .int M_taped, .int M_latest, .int M_length, .int M_at, .int M_sort, .int M_from, .int M_till, .int M_fault, .int M_faultAt, .ref aM_fewest, .ref aM_may, .ref aM_then, .ref aM_cases, .ref aM_next, .ref aM_trace, .int M_traced])), (aM_lane, .inl (cI, 8, .inl M_lane)), (aM_many, .inl (cI, 8, .inl M_many)), (aM_item, .inl (cI, 320, .inl M_item))]) ⟨hx, hb, hml, hown, hts⟩ (c_X7_isSheet l dC dI cI cJ cZ cA p0 r1 e2) (va_cwS 1 hts gX7_picks_X7_isSheet rfl rfl rfl (by decide +kernel) ⟨Nat.le_of_ble_eq_true rfl, Nat.le_of_ble_eq_true rfl⟩) hK hP hD hS hA [] [0, 1, 2, 3] [0, 1, 2, 3] rfl rfl rfl rfl (by decide) rfl rfl rfl hl.1 rfl (Nat.le_of_ble_eq_true rfl) dX7_picks_6 ⟨Nat.zero_le _, Nat.zero_le _⟩ (fun H locs hP hD hS => ?_)
  refine lv_if_eq (tgt := 48) hx hb dX7_picks_9 (by decide) (fun c3 => ?_) (fun c3 => ?_)
  · have h := ift c3 h
    refine lv_ldc hx hb hown k_3 dX7_picks_48 ?_
    obtain ⟨rfl, rfl, rfl⟩ := sj3 h
    exact hret _ _ _ _ _ rfl rfl hP hD hS dX7_picks_50
  · have h := ifn c3 h
    refine lv_iload_n hx hb dX7_picks_12 rfl (lv_at hl 3 rfl) ?_
    refine lv_i2l hx hb dX7_picks_13 rfl ?_
    refine lv_lconst (v := 1) hx hb dX7_picks_14 (by decide) ?_
    refine lv_ldc2 hx hb hown k_4 dX7_picks_15 ?_
    obtain ⟨r4, e5, h⟩ := bd1_s h
    refine kc_si (rest := []) (wr := [(aM, .inr (7, [.int 0, .int M_status, .ref aM_lane, .ref aM_many, .ref aM_item, .int M_posts, .ref aM_beside, .int M_rounds, .ref aM_round, .int M_read, .ref aM_reads, .ref aM_tape, .int M_taped, .int M_latest, .int M_length, .int M_at, .int M_sort, .int M_from, .int M_till, .int M_fault, .int M_faultAt, .ref aM_fewest, .ref aM_may, .ref aM_then, .ref aM_cases, .ref aM_next, .ref aM_trace, .int M_traced])), (aM_lane, .inl (cI, 8, .inl M_lane)), (aM_many, .inl (cI, 8, .inl M_many)), (aM_item, .inl (cI, 320, .inl M_item))]) (wF := [(aM, .inr (7, [.int 0, .int M_status, .ref aM_lane, .ref aM_many, .ref aM_item, .int M_posts, .ref aM_beside, .int M_rounds, .ref aM_round, .int M_read, .ref aM_reads, .ref aM_tape, .int M_taped, .int M_latest, .int M_length, .int M_at, .int M_sort, .int M_from, .int M_till, .int M_fault, .int M_faultAt, .ref aM_fewest, .ref aM_may, .ref aM_then, .ref aM_cases, .ref aM_next, .ref aM_trace, .int M_traced])), (aM_lane, .inl (cI, 8, .inl M_lane)), (aM_many, .inl (cI, 8, .inl M_many)), (aM_item, .inl (cI, 320, .inl M_item))]) ⟨hx, hb, hml, hown, hts⟩ (c_X7_in l dC dI cI cJ cZ cA p2.toInt64 1 40 r4 e5) (va_cwS 3 hts gX7_picks_X7_in rfl rfl rfl (by decide +kernel) ⟨Nat.le_of_ble_eq_true rfl, Nat.le_of_ble_eq_true rfl⟩) hK hP hD hS hA [] [0, 1, 2, 3] [0, 1, 2, 3] rfl rfl rfl rfl (by decide) rfl rfl rfl hl.1 rfl (Nat.le_of_ble_eq_true rfl) dX7_picks_18 ⟨Nat.zero_le _, Nat.zero_le _⟩ (fun H locs hP hD hS => ?_)
    refine lv_if_eq (tgt := 48) hx hb dX7_picks_21 (by decide) (fun c6 => ?_) (fun c6 => ?_)
    · have h := ift c6 h
      refine lv_ldc hx hb hown k_3 dX7_picks_48 ?_
      obtain ⟨rfl, rfl, rfl⟩ := sj3 h
      exact hret _ _ _ _ _ rfl rfl hP hD hS dX7_picks_50
    · have h := ifn c6 h
      refine lv_iload hx hb dX7_picks_24 (lv_at hl 4 rfl) ?_
      refine lv_i2l hx hb dX7_picks_26 rfl ?_
      refine lv_lconst (v := 1) hx hb dX7_picks_27 (by decide) ?_
      refine lv_ldc2 hx hb hown k_5 dX7_picks_28 ?_
      obtain ⟨r7, e8, h⟩ := bd1_s h
      refine kc_si (rest := []) (wr := [(aM, .inr (7, [.int 0, .int M_status, .ref aM_lane, .ref aM_many, .ref aM_item, .int M_posts, .ref aM_beside, .int M_rounds, .ref aM_round, .int M_read, .ref aM_reads, .ref aM_tape, .int M_taped, .int M_latest, .int M_length, .int M_at, .int M_sort, .int M_from, .int M_till, .int M_fault, .int M_faultAt, .ref aM_fewest, .ref aM_may, .ref aM_then, .ref aM_cases, .ref aM_next, .ref aM_trace, .int M_traced])), (aM_lane, .inl (cI, 8, .inl M_lane)), (aM_many, .inl (cI, 8, .inl M_many)), (aM_item, .inl (cI, 320, .inl M_item))]) (wF := [(aM, .inr (7, [.int 0, .int M_status, .ref aM_lane, .ref aM_many, .ref aM_item, .int M_posts, .ref aM_beside, .int M_rounds, .ref aM_round, .int M_read, .ref aM_reads, .ref aM_tape, .int M_taped, .int M_latest, .int M_length, .int M_at, .int M_sort, .int M_from, .int M_till, .int M_fault, .int M_faultAt, .ref aM_fewest, .ref aM_may, .ref aM_then, .ref aM_cases, .ref aM_next, .ref aM_trace, .int M_traced])), (aM_lane, .inl (cI, 8, .inl M_lane)), (aM_many, .inl (cI, 8, .inl M_many)), (aM_item, .inl (cI, 320, .inl M_item))]) ⟨hx, hb, hml, hown, hts⟩ (c_X7_in l dC dI cI cJ cZ cA p3.toInt64 1 4 r7 e8) (va_cwS 3 hts gX7_picks_X7_in rfl rfl rfl (by decide +kernel) ⟨Nat.le_of_ble_eq_true rfl, Nat.le_of_ble_eq_true rfl⟩) hK hP hD hS hA [] [0, 1, 2, 3] [0, 1, 2, 3] rfl rfl rfl rfl (by decide) rfl rfl rfl hl.1 rfl (Nat.le_of_ble_eq_true rfl) dX7_picks_31 ⟨Nat.zero_le _, Nat.zero_le _⟩ (fun H locs hP hD hS => ?_)
      refine lv_if_eq (tgt := 48) hx hb dX7_picks_34 (by decide) (fun c9 => ?_) (fun c9 => ?_)
      · have h := ift c9 h
        refine lv_ldc hx hb hown k_3 dX7_picks_48 ?_
        obtain ⟨rfl, rfl, rfl⟩ := sj3 h
        exact hret _ _ _ _ _ rfl rfl hP hD hS dX7_picks_50
      · have h := ifn c9 h
        refine lv_iload hx hb dX7_picks_37 (lv_at hl 5 rfl) ?_
        refine lv_i2l hx hb dX7_picks_39 rfl ?_
        refine lv_lconst (v := 0) hx hb dX7_picks_40 (by decide) ?_
        refine lv_lconst (v := 1) hx hb dX7_picks_41 (by decide) ?_
        obtain ⟨r10, e11, h⟩ := bd1_s h
        refine kc_si (rest := []) (wr := [(aM, .inr (7, [.int 0, .int M_status, .ref aM_lane, .ref aM_many, .ref aM_item, .int M_posts, .ref aM_beside, .int M_rounds, .ref aM_round, .int M_read, .ref aM_reads, .ref aM_tape, .int M_taped, .int M_latest, .int M_length, .int M_at, .int M_sort, .int M_from, .int M_till, .int M_fault, .int M_faultAt, .ref aM_fewest, .ref aM_may, .ref aM_then, .ref aM_cases, .ref aM_next, .ref aM_trace, .int M_traced])), (aM_lane, .inl (cI, 8, .inl M_lane)), (aM_many, .inl (cI, 8, .inl M_many)), (aM_item, .inl (cI, 320, .inl M_item))]) (wF := [(aM, .inr (7, [.int 0, .int M_status, .ref aM_lane, .ref aM_many, .ref aM_item, .int M_posts, .ref aM_beside, .int M_rounds, .ref aM_round, .int M_read, .ref aM_reads, .ref aM_tape, .int M_taped, .int M_latest, .int M_length, .int M_at, .int M_sort, .int M_from, .int M_till, .int M_fault, .int M_faultAt, .ref aM_fewest, .ref aM_may, .ref aM_then, .ref aM_cases, .ref aM_next, .ref aM_trace, .int M_traced])), (aM_lane, .inl (cI, 8, .inl M_lane)), (aM_many, .inl (cI, 8, .inl M_many)), (aM_item, .inl (cI, 320, .inl M_item))]) ⟨hx, hb, hml, hown, hts⟩ (c_X7_in l dC dI cI cJ cZ cA p4.toInt64 0 1 r10 e11) (va_cwS 3 hts gX7_picks_X7_in rfl rfl rfl (by decide +kernel) ⟨Nat.le_of_ble_eq_true rfl, Nat.le_of_ble_eq_true rfl⟩) hK hP hD hS hA [] [0, 1, 2, 3] [0, 1, 2, 3] rfl rfl rfl rfl (by decide) rfl rfl rfl hl.1 rfl (Nat.le_of_ble_eq_true rfl) dX7_picks_42 ⟨Nat.zero_le _, Nat.zero_le _⟩ (fun H locs hP hD hS => ?_)
        refine lv_if_ne (tgt := 51) hx hb dX7_picks_45 (by decide) (fun c12 => ?_) (fun c12 => ?_)
        · have h := ifn c12 h
          refine lv_aload_n hx hb dX7_picks_51 rfl (lv_at hl 0 rfl) ?_
          refine lv_iconst (v := 0) hx hb dX7_picks_52 (by decide) ?_
          refine ka_put (w1 := [(aM, .inr (7, [.int 0, .int 0, .ref aM_lane, .ref aM_many, .ref aM_item, .int M_posts, .ref aM_beside, .int M_rounds, .ref aM_round, .int M_read, .ref aM_reads, .ref aM_tape, .int M_taped, .int M_latest, .int M_length, .int M_at, .int M_sort, .int M_from, .int M_till, .int M_fault, .int M_faultAt, .ref aM_fewest, .ref aM_may, .ref aM_then, .ref aM_cases, .ref aM_next, .ref aM_trace, .int M_traced])), (aM_lane, .inl (cI, 8, .inl M_lane)), (aM_many, .inl (cI, 8, .inl M_many)), (aM_item, .inl (cI, 320, .inl M_item))]) (C := RX7) (T := TX7) (Nf := 28) (ref := "BeepNetModel") hx hb hts hiX7 tyX7 tyX7_ok nmX7 hown hK hP hD hS 0 rfl rfl 1 (by decide) k_6 rfl rfl rfl (Nat.le_of_ble_eq_true rfl) dX7_picks_53 rfl (fun H locs hP hD hS => ?_)
          refine lv_aload_n hx hb dX7_picks_56 rfl (lv_at hl 0 rfl) ?_
          refine ka_get (v := .ref aM_lane) (C := RX7) (T := TX7) (Nf := 28) (ref := "BeepNetModel") hx hb hts hiX7 hown hK hP 0 rfl rfl 2 (by decide) k_7 rfl rfl dX7_picks_57 ?_
          refine lv_iload_n hx hb dX7_picks_60 rfl (lv_at hl 1 rfl) ?_
          obtain ⟨v13, ev13, hn14, h⟩ := ldx_s h
          refine ka_ild hx hb hK hP 1 0 ev13 rfl rfl hn14 dX7_picks_61 ?_
          refine lv_if_ge (tgt := 71) hx hb dX7_picks_62 (by decide) (fun c15 => ?_) (fun c15 => ?_)
          · have h := ift c15 h
            refine lv_iload_n hx hb dX7_picks_71 rfl (lv_at hl 2 rfl) ?_
            refine lv_if_lt (tgt := 91) hx hb dX7_picks_72 (by decide) (fun c16 => ?_) (fun c16 => ?_)
            · have h := ift c16 h
              refine lv_aload_n hx hb dX7_picks_91 rfl (lv_at hl 0 rfl) ?_
              refine lv_iconst (v := 2) hx hb dX7_picks_92 (by decide) ?_
              obtain ⟨r17, M_status_18, e19, h⟩ := bd2_s h
              refine kc_vi (rest := []) (wr := [(aM_lane, .inl (cI, 8, .inl M_lane)), (aM_many, .inl (cI, 8, .inl M_many)), (aM_item, .inl (cI, 320, .inl M_item))]) (wF := [(aM, .inr (7, [.int 0, .int M_status_18, .ref aM_lane, .ref aM_many, .ref aM_item, .int M_posts, .ref aM_beside, .int M_rounds, .ref aM_round, .int M_read, .ref aM_reads, .ref aM_tape, .int M_taped, .int M_latest, .int M_length, .int M_at, .int M_sort, .int M_from, .int M_till, .int M_fault, .int M_faultAt, .ref aM_fewest, .ref aM_may, .ref aM_then, .ref aM_cases, .ref aM_next, .ref aM_trace, .int M_traced])), (aM_lane, .inl (cI, 8, .inl M_lane)), (aM_many, .inl (cI, 8, .inl M_many)), (aM_item, .inl (cI, 320, .inl M_item))]) ⟨hx, hb, hml, hown, hts⟩ (c_X7_found l dC dI cI cJ cZ cA aM aM_lane aM_many aM_item aM_beside aM_round aM_reads aM_tape aM_fewest aM_may aM_then aM_cases aM_next aM_trace 0 0 M_posts M_rounds M_read M_taped M_latest M_length M_at M_sort M_from M_till M_fault M_faultAt M_traced 2 r17 M_status_18 e19) (cwV 1 hts gX7_picks_X7_found rfl rfl rfl (by decide +kernel) ⟨Nat.le_of_ble_eq_true rfl, Nat.le_of_ble_eq_true rfl⟩) hK hP hD hS hA [0] [1, 2, 3] [3, 0, 1, 2] 0 rfl rfl rfl rfl (by decide) rfl rfl rfl rfl rfl rfl hl.1 rfl (Nat.le_of_ble_eq_true rfl) dX7_picks_93 ⟨Nat.zero_le _, Nat.zero_le _⟩ (fun H locs hP hD hS => ?_)
              obtain ⟨rfl, rfl, rfl⟩ := sj3 h
              exact hret _ _ _ _ _ rfl rfl hP hD hS dX7_picks_96
            · have h := ifn c16 h
              refine lv_iload_n hx hb dX7_picks_75 rfl (lv_at hl 2 rfl) ?_
              refine lv_i2l hx hb dX7_picks_76 rfl ?_
              refine lv_iload_n hx hb dX7_picks_77 rfl (lv_at hl 3 rfl) ?_
              refine lv_i2l hx hb dX7_picks_78 rfl ?_
              refine lv_ladd hx hb dX7_picks_79 ?_
              refine lv_aload_n hx hb dX7_picks_80 rfl (lv_at hl 0 rfl) ?_
              refine ka_get (v := .ref aM_many) (C := RX7) (T := TX7) (Nf := 28) (ref := "BeepNetModel") hx hb hts hiX7 hown hK hP 0 rfl rfl 3 (by decide) k_8 rfl rfl dX7_picks_81 ?_
              refine lv_iload_n hx hb dX7_picks_84 rfl (lv_at hl 1 rfl) ?_
              obtain ⟨v20, ev20, hn21, h⟩ := ldx_s h
              refine ka_ild hx hb hK hP 2 0 ev20 rfl rfl hn21 dX7_picks_85 ?_
              refine lv_i2l hx hb dX7_picks_86 rfl ?_
              refine W.lcmp hx hb dX7_picks_87 ?_
              refine lv_if_le (tgt := 97) hx hb dX7_picks_88 (by decide) (fun c22 => ?_) (fun c22 => ?_)
              · have h := ift c22 h
                refine lv_iconst (v := 1) hx hb dX7_picks_97 (by decide) ?_
                refine lv_istore (lv' := [(6, .int 1), (0, .ref aM), (1, .int p0), (2, .int p1), (3, .int p2), (4, .int p3), (5, .int p4)]) hx hb dX7_picks_98 hl (by decide) rfl (fun ls hl => ?_)
                exact hC100 FU 0 0 p0 p1 p2 p3 p4 1 _ _ _ h hP hD hS (lv_sub hl [1, 2, 3, 4, 5, 6, 0] rfl)
              · have h := ifn c22 h
                refine lv_aload_n hx hb dX7_picks_91 rfl (lv_at hl 0 rfl) ?_
                refine lv_iconst (v := 2) hx hb dX7_picks_92 (by decide) ?_
                obtain ⟨r23, M_status_24, e25, h⟩ := bd2_s h
                refine kc_vi (rest := []) (wr := [(aM_lane, .inl (cI, 8, .inl M_lane)), (aM_many, .inl (cI, 8, .inl M_many)), (aM_item, .inl (cI, 320, .inl M_item))]) (wF := [(aM, .inr (7, [.int 0, .int M_status_24, .ref aM_lane, .ref aM_many, .ref aM_item, .int M_posts, .ref aM_beside, .int M_rounds, .ref aM_round, .int M_read, .ref aM_reads, .ref aM_tape, .int M_taped, .int M_latest, .int M_length, .int M_at, .int M_sort, .int M_from, .int M_till, .int M_fault, .int M_faultAt, .ref aM_fewest, .ref aM_may, .ref aM_then, .ref aM_cases, .ref aM_next, .ref aM_trace, .int M_traced])), (aM_lane, .inl (cI, 8, .inl M_lane)), (aM_many, .inl (cI, 8, .inl M_many)), (aM_item, .inl (cI, 320, .inl M_item))]) ⟨hx, hb, hml, hown, hts⟩ (c_X7_found l dC dI cI cJ cZ cA aM aM_lane aM_many aM_item aM_beside aM_round aM_reads aM_tape aM_fewest aM_may aM_then aM_cases aM_next aM_trace 0 0 M_posts M_rounds M_read M_taped M_latest M_length M_at M_sort M_from M_till M_fault M_faultAt M_traced 2 r23 M_status_24 e25) (cwV 1 hts gX7_picks_X7_found rfl rfl rfl (by decide +kernel) ⟨Nat.le_of_ble_eq_true rfl, Nat.le_of_ble_eq_true rfl⟩) hK hP hD hS hA [0] [1, 2, 3] [3, 0, 1, 2] 0 rfl rfl rfl rfl (by decide) rfl rfl rfl rfl rfl rfl hl.1 rfl (Nat.le_of_ble_eq_true rfl) dX7_picks_93 ⟨Nat.zero_le _, Nat.zero_le _⟩ (fun H locs hP hD hS => ?_)
                obtain ⟨rfl, rfl, rfl⟩ := sj3 h
                exact hret _ _ _ _ _ rfl rfl hP hD hS dX7_picks_96
          · have h := ifn c15 h
            refine lv_aload_n hx hb dX7_picks_65 rfl (lv_at hl 0 rfl) ?_
            refine lv_iconst (v := 1) hx hb dX7_picks_66 (by decide) ?_
            obtain ⟨r26, M_status_27, e28, h⟩ := bd2_s h
            refine kc_vi (rest := []) (wr := [(aM_lane, .inl (cI, 8, .inl M_lane)), (aM_many, .inl (cI, 8, .inl M_many)), (aM_item, .inl (cI, 320, .inl M_item))]) (wF := [(aM, .inr (7, [.int 0, .int M_status_27, .ref aM_lane, .ref aM_many, .ref aM_item, .int M_posts, .ref aM_beside, .int M_rounds, .ref aM_round, .int M_read, .ref aM_reads, .ref aM_tape, .int M_taped, .int M_latest, .int M_length, .int M_at, .int M_sort, .int M_from, .int M_till, .int M_fault, .int M_faultAt, .ref aM_fewest, .ref aM_may, .ref aM_then, .ref aM_cases, .ref aM_next, .ref aM_trace, .int M_traced])), (aM_lane, .inl (cI, 8, .inl M_lane)), (aM_many, .inl (cI, 8, .inl M_many)), (aM_item, .inl (cI, 320, .inl M_item))]) ⟨hx, hb, hml, hown, hts⟩ (c_X7_found l dC dI cI cJ cZ cA aM aM_lane aM_many aM_item aM_beside aM_round aM_reads aM_tape aM_fewest aM_may aM_then aM_cases aM_next aM_trace 0 0 M_posts M_rounds M_read M_taped M_latest M_length M_at M_sort M_from M_till M_fault M_faultAt M_traced 1 r26 M_status_27 e28) (cwV 1 hts gX7_picks_X7_found rfl rfl rfl (by decide +kernel) ⟨Nat.le_of_ble_eq_true rfl, Nat.le_of_ble_eq_true rfl⟩) hK hP hD hS hA [0] [1, 2, 3] [3, 0, 1, 2] 0 rfl rfl rfl rfl (by decide) rfl rfl rfl rfl rfl rfl hl.1 rfl (Nat.le_of_ble_eq_true rfl) dX7_picks_67 ⟨Nat.zero_le _, Nat.zero_le _⟩ (fun H locs hP hD hS => ?_)
            obtain ⟨rfl, rfl, rfl⟩ := sj3 h
            exact hret _ _ _ _ _ rfl rfl hP hD hS dX7_picks_70
        · have h := ift c12 h
          refine lv_ldc hx hb hown k_3 dX7_picks_48 ?_
          obtain ⟨rfl, rfl, rfl⟩ := sj3 h
          exact hret _ _ _ _ _ rfl rfl hP hD hS dX7_picks_50
set_option maxHeartbeats 4000000 in
set_option maxRecDepth 100000 in
theorem c_X7_kindOf (l : Launch) (dC : Nat → ClassId) (dI : Nat → Nat → Nat) (cI cJ cZ cA : ClassId) (aM aM_lane aM_many aM_item aM_beside aM_round aM_reads aM_tape aM_fewest aM_may aM_then aM_cases aM_next aM_trace : Nat) (M_thrown : Int32) (M_status : Int32) (M_posts : Int32) (M_rounds : Int32) (M_read : Int32) (M_taped : Int32) (M_latest : Int32) (M_length : Int32) (M_at : Int32) (M_sort : Int32) (M_from : Int32) (M_till : Int32) (M_fault : Int32) (M_faultAt : Int32) (M_traced : Int32) (M_beside : Nat → Int32) (p0 : Int32) (rr : Int32) (h : fX7_kindOf M_posts M_beside p0 = some rr) : Cti l yX7_kindOf wsX7_kindOf rmX7_kindOf (dC, dI) (tyL cI cJ cZ cA) [(aM, .inr (7, [.int M_thrown, .int M_status, .ref aM_lane, .ref aM_many, .ref aM_item, .int M_posts, .ref aM_beside, .int M_rounds, .ref aM_round, .int M_read, .ref aM_reads, .ref aM_tape, .int M_taped, .int M_latest, .int M_length, .int M_at, .int M_sort, .int M_from, .int M_till, .int M_fault, .int M_faultAt, .ref aM_fewest, .ref aM_may, .ref aM_then, .ref aM_cases, .ref aM_next, .ref aM_trace, .int M_traced])), (aM_beside, .inl (cI, 8, .inl M_beside))] [(aM, .inr (7, [.int M_thrown, .int M_status, .ref aM_lane, .ref aM_many, .ref aM_item, .int M_posts, .ref aM_beside, .int M_rounds, .ref aM_round, .int M_read, .ref aM_reads, .ref aM_tape, .int M_taped, .int M_latest, .int M_length, .int M_at, .int M_sort, .int M_from, .int M_till, .int M_fault, .int M_faultAt, .ref aM_fewest, .ref aM_may, .ref aM_then, .ref aM_cases, .ref aM_next, .ref aM_trace, .int M_traced])), (aM_beside, .inl (cI, 8, .inl M_beside))] [.ref aM, .int p0] rr := by
  refine ct_int (ty := .int) (cc := cX7_kindOf) (maxL := 5) (by decide) rfl (Nat.le_of_ble_eq_true rfl) ?_
  intro p e s m args below meth c A Q ls hx hb hml hown hts hA hK hP hD hS hl hret
  have hl : lv_has ls 5 [(0, .ref aM), (1, .int p0)] := hl
  have k_0 := hts (.fieldLink RX7 76 "BeepNetModel" "posts" "I") (by decide +kernel)
  have k_1 := hts (.fieldLink RX7 19 "BeepNetModel" "beside" "[I") (by decide +kernel)
  have hiX7 : ∀ w ∈ u_ws RX7 TX7 28, w ∈ wsX7_kindOf := fun w hw => List.mem_cons_of_mem _ (List.mem_append_right _ hw)
  have hC15 : ∀ (n : Nat) (x2 : Int32) (x3 : Int32) (x4 : Int32) (H : Heap) (locs : List Loc) (ls : Array Slot), fX7_kindOf_c15 M_posts M_beside n x2 x3 x4 = some rr → va_P (dC, dI) vwCl [(aM, .inr (7, [.int M_thrown, .int M_status, .ref aM_lane, .ref aM_many, .ref aM_item, .int M_posts, .ref aM_beside, .int M_rounds, .ref aM_round, .int M_read, .ref aM_reads, .ref aM_tape, .int M_taped, .int M_latest, .int M_length, .int M_at, .int M_sort, .int M_from, .int M_till, .int M_fault, .int M_faultAt, .ref aM_fewest, .ref aM_may, .ref aM_then, .ref aM_cases, .ref aM_next, .ref aM_trace, .int M_traced])), (aM_beside, .inl (cI, 8, .inl M_beside))] H → va_D A [(aM, .inr (7, [.int M_thrown, .int M_status, .ref aM_lane, .ref aM_many, .ref aM_item, .int M_posts, .ref aM_beside, .int M_rounds, .ref aM_round, .int M_read, .ref aM_reads, .ref aM_tape, .int M_taped, .int M_latest, .int M_length, .int M_at, .int M_sort, .int M_from, .int M_till, .int M_fault, .int M_faultAt, .ref aM_fewest, .ref aM_may, .ref aM_then, .ref aM_cases, .ref aM_next, .ref aM_trace, .int M_traced])), (aM_beside, .inl (cI, 8, .inl M_beside))] → va_S A s.heap H locs → lv_has ls 5 [(0, .ref aM), (2, .int x2), (3, .int x3), (4, .int x4)] → W p l e rmX7_kindOf s m args below meth c H locs 0 0 Q (F0 m 15 ls []) := by
    intro n
    induction n with
    | zero => intro x2 x3 x4 H locs ls h; rw [fX7_kindOf_c15] at h; cases h
    | succ n15 ih15 =>
      intro x2 x3 x4 H locs ls h hP hD hS hl
      rw [fX7_kindOf_c15] at h
      refine lv_iload hx hb dX7_kindOf_15 (lv_at hl 3 rfl) ?_
      refine lv_aload_n hx hb dX7_kindOf_17 rfl (lv_at hl 0 rfl) ?_
      refine ka_get (v := .int M_posts) (C := RX7) (T := TX7) (Nf := 28) (ref := "BeepNetModel") hx hb hts hiX7 hown hK hP 0 rfl rfl 5 (by decide) k_0 rfl rfl dX7_kindOf_18 ?_
      refine lv_icmp_ge (tgt := 59) hx hb dX7_kindOf_21 (by decide) (fun c1601 => ?_) (fun c1601 => ?_)
      · have h := ift c1601 h
        refine lv_iload_n hx hb dX7_kindOf_59 rfl (lv_at hl 1 rfl) ?_
        refine lv_if_ne (tgt := 67) hx hb dX7_kindOf_60 (by decide) (fun c1602 => ?_) (fun c1602 => ?_)
        · have h := ifn c1602 h
          refine lv_iload_n hx hb dX7_kindOf_67 rfl (lv_at hl 1 rfl) ?_
          refine lv_iconst (v := 1) hx hb dX7_kindOf_68 (by decide) ?_
          refine lv_icmp_ne (tgt := 76) hx hb dX7_kindOf_69 (by decide) (fun c1603 => ?_) (fun c1603 => ?_)
          · have h := ifn c1603 h
            refine lv_iload_n hx hb dX7_kindOf_76 rfl (lv_at hl 1 rfl) ?_
            refine lv_iload_n hx hb dX7_kindOf_77 rfl (lv_at hl 2 rfl) ?_
            refine lv_icmp_ne (tgt := 85) hx hb dX7_kindOf_78 (by decide) (fun c1604 => ?_) (fun c1604 => ?_)
            · have h := ifn c1604 h
              refine lv_iconst (v := 1) hx hb dX7_kindOf_85 (by decide) ?_
              obtain rfl := sj1 h
              exact hret _ _ _ _ _ rfl rfl hP hD hS dX7_kindOf_86
            · have h := ift c1604 h
              refine lv_iconst (v := 3) hx hb dX7_kindOf_81 (by decide) ?_
              refine lv_goto (tgt := 86) hx hb dX7_kindOf_82 (by decide) ?_
              obtain rfl := sj1 h
              exact hret _ _ _ _ _ rfl rfl hP hD hS dX7_kindOf_86
          · have h := ift c1603 h
            refine lv_iconst (v := 2) hx hb dX7_kindOf_72 (by decide) ?_
            refine lv_goto (tgt := 86) hx hb dX7_kindOf_73 (by decide) ?_
            obtain rfl := sj1 h
            exact hret _ _ _ _ _ rfl rfl hP hD hS dX7_kindOf_86
        · have h := ift c1602 h
          refine lv_iconst (v := 4) hx hb dX7_kindOf_63 (by decide) ?_
          refine lv_goto (tgt := 86) hx hb dX7_kindOf_64 (by decide) ?_
          obtain rfl := sj1 h
          exact hret _ _ _ _ _ rfl rfl hP hD hS dX7_kindOf_86
      · have h := ifn c1601 h
        refine lv_aload_n hx hb dX7_kindOf_24 rfl (lv_at hl 0 rfl) ?_
        refine ka_get (v := .ref aM_beside) (C := RX7) (T := TX7) (Nf := 28) (ref := "BeepNetModel") hx hb hts hiX7 hown hK hP 0 rfl rfl 6 (by decide) k_1 rfl rfl dX7_kindOf_25 ?_
        refine lv_iload hx hb dX7_kindOf_28 (lv_at hl 3 rfl) ?_
        obtain ⟨v1605, ev1605, hn1606, h⟩ := ldx_s h
        refine ka_ild hx hb hK hP 1 0 ev1605 rfl rfl hn1606 dX7_kindOf_30 ?_
        obtain ⟨r1607, e1608, h⟩ := bd1_s h
        refine kc_si (rest := []) (wr := [(aM, .inr (7, [.int M_thrown, .int M_status, .ref aM_lane, .ref aM_many, .ref aM_item, .int M_posts, .ref aM_beside, .int M_rounds, .ref aM_round, .int M_read, .ref aM_reads, .ref aM_tape, .int M_taped, .int M_latest, .int M_length, .int M_at, .int M_sort, .int M_from, .int M_till, .int M_fault, .int M_faultAt, .ref aM_fewest, .ref aM_may, .ref aM_then, .ref aM_cases, .ref aM_next, .ref aM_trace, .int M_traced])), (aM_beside, .inl (cI, 8, .inl M_beside))]) (wF := [(aM, .inr (7, [.int M_thrown, .int M_status, .ref aM_lane, .ref aM_many, .ref aM_item, .int M_posts, .ref aM_beside, .int M_rounds, .ref aM_round, .int M_read, .ref aM_reads, .ref aM_tape, .int M_taped, .int M_latest, .int M_length, .int M_at, .int M_sort, .int M_from, .int M_till, .int M_fault, .int M_faultAt, .ref aM_fewest, .ref aM_may, .ref aM_then, .ref aM_cases, .ref aM_next, .ref aM_trace, .int M_traced])), (aM_beside, .inl (cI, 8, .inl M_beside))]) ⟨hx, hb, hml, hown, hts⟩ (c_X7_size l dC dI cI cJ cZ cA v1605 r1607 e1608) (va_cwS 1 hts gX7_kindOf_X7_size rfl rfl rfl (by decide +kernel) ⟨Nat.le_of_ble_eq_true rfl, Nat.le_of_ble_eq_true rfl⟩) hK hP hD hS hA [] [0, 1] [0, 1] rfl rfl rfl rfl (by decide) rfl rfl rfl hl.1 rfl (Nat.le_of_ble_eq_true rfl) dX7_kindOf_31 ⟨Nat.zero_le _, Nat.zero_le _⟩ (fun H locs hP hD hS => ?_)
        refine lv_iload_n hx hb dX7_kindOf_34 rfl (lv_at hl 2 rfl) ?_
        refine lv_icmp_le (tgt := 51) hx hb dX7_kindOf_35 (by decide) (fun c1609 => ?_) (fun c1609 => ?_)
        · have h := ift c1609 h
          refine lv_iload_n hx hb dX7_kindOf_51 rfl (lv_at hl 2 rfl) ?_
          refine lv_istore_n (lv' := [(3, .int x3), (0, .ref aM), (2, .int x2), (4, .int x4)]) hx hb dX7_kindOf_52 rfl hl (by decide) rfl (fun ls hl => ?_)
          refine lv_iinc (v := x4 + 1) (lv' := [(4, .int (x4 + 1)), (3, .int x3), (0, .ref aM), (2, .int x2)]) hx hb dX7_kindOf_53 hl (k := 3) rfl rfl (by decide) rfl (fun ls hl => ?_)
          refine lv_goto (tgt := 15) hx hb dX7_kindOf_56 (by decide) ?_
          exact ih15 x2 x3 (x4 + 1) _ _ _ h hP hD hS (lv_sub hl [2, 3, 1, 0] rfl)
        · have h := ifn c1609 h
          refine lv_aload_n hx hb dX7_kindOf_38 rfl (lv_at hl 0 rfl) ?_
          refine ka_get (v := .ref aM_beside) (C := RX7) (T := TX7) (Nf := 28) (ref := "BeepNetModel") hx hb hts hiX7 hown hK hP 0 rfl rfl 6 (by decide) k_1 rfl rfl dX7_kindOf_39 ?_
          refine lv_iload hx hb dX7_kindOf_42 (lv_at hl 3 rfl) ?_
          obtain ⟨v1610, ev1610, hn1611, h⟩ := ldx_s h
          refine ka_ild hx hb hK hP 1 0 ev1610 rfl rfl hn1611 dX7_kindOf_44 ?_
          obtain ⟨r1612, e1613, h⟩ := bd1_s h
          refine kc_si (rest := []) (wr := [(aM, .inr (7, [.int M_thrown, .int M_status, .ref aM_lane, .ref aM_many, .ref aM_item, .int M_posts, .ref aM_beside, .int M_rounds, .ref aM_round, .int M_read, .ref aM_reads, .ref aM_tape, .int M_taped, .int M_latest, .int M_length, .int M_at, .int M_sort, .int M_from, .int M_till, .int M_fault, .int M_faultAt, .ref aM_fewest, .ref aM_may, .ref aM_then, .ref aM_cases, .ref aM_next, .ref aM_trace, .int M_traced])), (aM_beside, .inl (cI, 8, .inl M_beside))]) (wF := [(aM, .inr (7, [.int M_thrown, .int M_status, .ref aM_lane, .ref aM_many, .ref aM_item, .int M_posts, .ref aM_beside, .int M_rounds, .ref aM_round, .int M_read, .ref aM_reads, .ref aM_tape, .int M_taped, .int M_latest, .int M_length, .int M_at, .int M_sort, .int M_from, .int M_till, .int M_fault, .int M_faultAt, .ref aM_fewest, .ref aM_may, .ref aM_then, .ref aM_cases, .ref aM_next, .ref aM_trace, .int M_traced])), (aM_beside, .inl (cI, 8, .inl M_beside))]) ⟨hx, hb, hml, hown, hts⟩ (c_X7_size l dC dI cI cJ cZ cA v1610 r1612 e1613) (va_cwS 1 hts gX7_kindOf_X7_size rfl rfl rfl (by decide +kernel) ⟨Nat.le_of_ble_eq_true rfl, Nat.le_of_ble_eq_true rfl⟩) hK hP hD hS hA [] [0, 1] [0, 1] rfl rfl rfl rfl (by decide) rfl rfl rfl hl.1 rfl (Nat.le_of_ble_eq_true rfl) dX7_kindOf_45 ⟨Nat.zero_le _, Nat.zero_le _⟩ (fun H locs hP hD hS => ?_)
          refine lv_goto (tgt := 52) hx hb dX7_kindOf_48 (by decide) ?_
          refine lv_istore_n (lv' := [(3, .int r1612), (0, .ref aM), (2, .int x2), (4, .int x4)]) hx hb dX7_kindOf_52 rfl hl (by decide) rfl (fun ls hl => ?_)
          refine lv_iinc (v := x4 + 1) (lv' := [(4, .int (x4 + 1)), (3, .int r1612), (0, .ref aM), (2, .int x2)]) hx hb dX7_kindOf_53 hl (k := 3) rfl rfl (by decide) rfl (fun ls hl => ?_)
          refine lv_goto (tgt := 15) hx hb dX7_kindOf_56 (by decide) ?_
          exact ih15 x2 r1612 (x4 + 1) _ _ _ h hP hD hS (lv_sub hl [2, 3, 1, 0] rfl)
  unfold fX7_kindOf at h
  refine lv_aload_n hx hb dX7_kindOf_0 rfl (lv_at hl 0 rfl) ?_
  refine ka_get (v := .ref aM_beside) (C := RX7) (T := TX7) (Nf := 28) (ref := "BeepNetModel") hx hb hts hiX7 hown hK hP 0 rfl rfl 6 (by decide) k_1 rfl rfl dX7_kindOf_1 ?_
  refine lv_iload_n hx hb dX7_kindOf_4 rfl (lv_at hl 1 rfl) ?_
  obtain ⟨v1, ev1, hn2, h⟩ := ldx_s h
  refine ka_ild hx hb hK hP 1 0 ev1 rfl rfl hn2 dX7_kindOf_5 ?_
  obtain ⟨r3, e4, h⟩ := bd1_s h
  refine kc_si (rest := []) (wr := [(aM, .inr (7, [.int M_thrown, .int M_status, .ref aM_lane, .ref aM_many, .ref aM_item, .int M_posts, .ref aM_beside, .int M_rounds, .ref aM_round, .int M_read, .ref aM_reads, .ref aM_tape, .int M_taped, .int M_latest, .int M_length, .int M_at, .int M_sort, .int M_from, .int M_till, .int M_fault, .int M_faultAt, .ref aM_fewest, .ref aM_may, .ref aM_then, .ref aM_cases, .ref aM_next, .ref aM_trace, .int M_traced])), (aM_beside, .inl (cI, 8, .inl M_beside))]) (wF := [(aM, .inr (7, [.int M_thrown, .int M_status, .ref aM_lane, .ref aM_many, .ref aM_item, .int M_posts, .ref aM_beside, .int M_rounds, .ref aM_round, .int M_read, .ref aM_reads, .ref aM_tape, .int M_taped, .int M_latest, .int M_length, .int M_at, .int M_sort, .int M_from, .int M_till, .int M_fault, .int M_faultAt, .ref aM_fewest, .ref aM_may, .ref aM_then, .ref aM_cases, .ref aM_next, .ref aM_trace, .int M_traced])), (aM_beside, .inl (cI, 8, .inl M_beside))]) ⟨hx, hb, hml, hown, hts⟩ (c_X7_size l dC dI cI cJ cZ cA v1 r3 e4) (va_cwS 1 hts gX7_kindOf_X7_size rfl rfl rfl (by decide +kernel) ⟨Nat.le_of_ble_eq_true rfl, Nat.le_of_ble_eq_true rfl⟩) hK hP hD hS hA [] [0, 1] [0, 1] rfl rfl rfl rfl (by decide) rfl rfl rfl hl.1 rfl (Nat.le_of_ble_eq_true rfl) dX7_kindOf_6 ⟨Nat.zero_le _, Nat.zero_le _⟩ (fun H locs hP hD hS => ?_)
  refine lv_istore_n (lv' := [(2, .int r3), (0, .ref aM), (1, .int p0)]) hx hb dX7_kindOf_9 rfl hl (by decide) rfl (fun ls hl => ?_)
  refine lv_iconst (v := 0) hx hb dX7_kindOf_10 (by decide) ?_
  refine lv_istore_n (lv' := [(3, .int 0), (2, .int r3), (0, .ref aM), (1, .int p0)]) hx hb dX7_kindOf_11 rfl hl (by decide) rfl (fun ls hl => ?_)
  refine lv_iconst (v := 0) hx hb dX7_kindOf_12 (by decide) ?_
  refine lv_istore (lv' := [(4, .int 0), (3, .int 0), (2, .int r3), (0, .ref aM), (1, .int p0)]) hx hb dX7_kindOf_13 hl (by decide) rfl (fun ls hl => ?_)
  exact hC15 FU r3 0 0 _ _ _ h hP hD hS (lv_sub hl [3, 2, 1, 0] rfl)
set_option maxHeartbeats 4000000 in
set_option maxRecDepth 100000 in
theorem c_X7_isOf (l : Launch) (dC : Nat → ClassId) (dI : Nat → Nat → Nat) (cI cJ cZ cA : ClassId) (p0 : Int32) (p1 : Int32) (rr : Int32) (h : fX7_isOf p0 p1 = some rr) : Cti l yX7_isOf wsX7_isOf rmX7_isOf (dC, dI) (tyL cI cJ cZ cA) [] [] [.int p0, .int p1] rr := by
  refine ct_int (ty := .boolean) (cc := cX7_isOf) (maxL := 2) (by decide) rfl (Nat.le_of_ble_eq_true rfl) ?_
  intro p e s m args below meth c A Q ls hx hb hml hown hts hA hK hP hD hS hl hret
  have hl : lv_has ls 2 [(0, .int p0), (1, .int p1)] := hl
  unfold fX7_isOf at h
  refine lv_iload_n hx hb dX7_isOf_0 rfl (lv_at hl 1 rfl) ?_
  refine lv_if_eq (tgt := 24) hx hb dX7_isOf_1 (by decide) (fun c1 => ?_) (fun c1 => ?_)
  · have h := ift c1 h
    refine lv_iconst (v := 1) hx hb dX7_isOf_24 (by decide) ?_
    refine lv_goto (tgt := 29) hx hb dX7_isOf_25 (by decide) ?_
    obtain rfl := sj1 h
    exact hret _ _ _ _ _ rfl rfl hP hD hS dX7_isOf_29
  · have h := ifn c1 h
    refine lv_iload_n hx hb dX7_isOf_4 rfl (lv_at hl 0 rfl) ?_
    refine lv_iload_n hx hb dX7_isOf_5 rfl (lv_at hl 1 rfl) ?_
    refine lv_icmp_eq (tgt := 24) hx hb dX7_isOf_6 (by decide) (fun c2 => ?_) (fun c2 => ?_)
    · have h := ift c2 h
      refine lv_iconst (v := 1) hx hb dX7_isOf_24 (by decide) ?_
      refine lv_goto (tgt := 29) hx hb dX7_isOf_25 (by decide) ?_
      obtain rfl := sj1 h
      exact hret _ _ _ _ _ rfl rfl hP hD hS dX7_isOf_29
    · have h := ifn c2 h
      refine lv_iload_n hx hb dX7_isOf_9 rfl (lv_at hl 1 rfl) ?_
      refine lv_iconst (v := 1) hx hb dX7_isOf_10 (by decide) ?_
      refine lv_icmp_ne (tgt := 28) hx hb dX7_isOf_11 (by decide) (fun c3 => ?_) (fun c3 => ?_)
      · have h := ifn c3 h
        refine lv_iconst (v := 0) hx hb dX7_isOf_28 (by decide) ?_
        obtain rfl := sj1 h
        exact hret _ _ _ _ _ rfl rfl hP hD hS dX7_isOf_29
      · have h := ift c3 h
        refine lv_iload_n hx hb dX7_isOf_14 rfl (lv_at hl 0 rfl) ?_
        refine lv_iconst (v := 2) hx hb dX7_isOf_15 (by decide) ?_
        refine lv_icmp_eq (tgt := 24) hx hb dX7_isOf_16 (by decide) (fun c4 => ?_) (fun c4 => ?_)
        · have h := ift c4 h
          refine lv_iconst (v := 1) hx hb dX7_isOf_24 (by decide) ?_
          refine lv_goto (tgt := 29) hx hb dX7_isOf_25 (by decide) ?_
          obtain rfl := sj1 h
          exact hret _ _ _ _ _ rfl rfl hP hD hS dX7_isOf_29
        · have h := ifn c4 h
          refine lv_iload_n hx hb dX7_isOf_19 rfl (lv_at hl 0 rfl) ?_
          refine lv_iconst (v := 3) hx hb dX7_isOf_20 (by decide) ?_
          refine lv_icmp_ne (tgt := 28) hx hb dX7_isOf_21 (by decide) (fun c5 => ?_) (fun c5 => ?_)
          · have h := ifn c5 h
            refine lv_iconst (v := 0) hx hb dX7_isOf_28 (by decide) ?_
            obtain rfl := sj1 h
            exact hret _ _ _ _ _ rfl rfl hP hD hS dX7_isOf_29
          · have h := ift c5 h
            refine lv_iconst (v := 1) hx hb dX7_isOf_24 (by decide) ?_
            refine lv_goto (tgt := 29) hx hb dX7_isOf_25 (by decide) ?_
            obtain rfl := sj1 h
            exact hret _ _ _ _ _ rfl rfl hP hD hS dX7_isOf_29
set_option maxHeartbeats 4000000 in
set_option maxRecDepth 100000 in
theorem c_X7_kind (l : Launch) (dC : Nat → ClassId) (dI : Nat → Nat → Nat) (cI cJ cZ cA : ClassId) (aM aM_lane aM_many aM_item aM_beside aM_round aM_reads aM_tape aM_fewest aM_may aM_then aM_cases aM_next aM_trace : Nat) (M_thrown : Int32) (M_status : Int32) (M_posts : Int32) (M_rounds : Int32) (M_read : Int32) (M_taped : Int32) (M_latest : Int32) (M_length : Int32) (M_at : Int32) (M_sort : Int32) (M_from : Int32) (M_till : Int32) (M_fault : Int32) (M_faultAt : Int32) (M_traced : Int32) (M_beside : Nat → Int32) (p0 : Int32) (rr : Int32) (M_thrown_z : Int32) (h : fX7_kind M_thrown M_posts M_beside p0 = some (rr, M_thrown_z)) : Cti l yX7_kind wsX7_kind rmX7_kind (dC, dI) (tyL cI cJ cZ cA) [(aM, .inr (7, [.int M_thrown, .int M_status, .ref aM_lane, .ref aM_many, .ref aM_item, .int M_posts, .ref aM_beside, .int M_rounds, .ref aM_round, .int M_read, .ref aM_reads, .ref aM_tape, .int M_taped, .int M_latest, .int M_length, .int M_at, .int M_sort, .int M_from, .int M_till, .int M_fault, .int M_faultAt, .ref aM_fewest, .ref aM_may, .ref aM_then, .ref aM_cases, .ref aM_next, .ref aM_trace, .int M_traced])), (aM_beside, .inl (cI, 8, .inl M_beside))] [(aM, .inr (7, [.int M_thrown_z, .int M_status, .ref aM_lane, .ref aM_many, .ref aM_item, .int M_posts, .ref aM_beside, .int M_rounds, .ref aM_round, .int M_read, .ref aM_reads, .ref aM_tape, .int M_taped, .int M_latest, .int M_length, .int M_at, .int M_sort, .int M_from, .int M_till, .int M_fault, .int M_faultAt, .ref aM_fewest, .ref aM_may, .ref aM_then, .ref aM_cases, .ref aM_next, .ref aM_trace, .int M_traced])), (aM_beside, .inl (cI, 8, .inl M_beside))] [.ref aM, .int p0] rr := by
  refine ct_int (ty := .int) (cc := cX7_kind) (maxL := 2) (by decide) rfl (Nat.le_of_ble_eq_true rfl) ?_
  intro p e s m args below meth c A Q ls hx hb hml hown hts hA hK hP hD hS hl hret
  have hl : lv_has ls 2 [(0, .ref aM), (1, .int p0)] := hl
  have k_0 := hts (.fieldLink RX7 51 "BeepNetModel" "thrown" "I") (by decide +kernel)
  have k_1 := hts (.constant RX7 71 (-1000001)) (by decide +kernel)
  have hiX7 : ∀ w ∈ u_ws RX7 TX7 28, w ∈ wsX7_kind := fun w hw => List.mem_cons_of_mem _ (List.mem_append_right _ hw)
  unfold fX7_kind at h
  refine lv_aload_n hx hb dX7_kind_0 rfl (lv_at hl 0 rfl) ?_
  refine lv_iconst (v := 0) hx hb dX7_kind_1 (by decide) ?_
  refine ka_put (w1 := [(aM, .inr (7, [.int 0, .int M_status, .ref aM_lane, .ref aM_many, .ref aM_item, .int M_posts, .ref aM_beside, .int M_rounds, .ref aM_round, .int M_read, .ref aM_reads, .ref aM_tape, .int M_taped, .int M_latest, .int M_length, .int M_at, .int M_sort, .int M_from, .int M_till, .int M_fault, .int M_faultAt, .ref aM_fewest, .ref aM_may, .ref aM_then, .ref aM_cases, .ref aM_next, .ref aM_trace, .int M_traced])), (aM_beside, .inl (cI, 8, .inl M_beside))]) (C := RX7) (T := TX7) (Nf := 28) (ref := "BeepNetModel") hx hb hts hiX7 tyX7 tyX7_ok nmX7 hown hK hP hD hS 0 rfl rfl 0 (by decide) k_0 rfl rfl rfl (Nat.le_of_ble_eq_true rfl) dX7_kind_2 rfl (fun H locs hP hD hS => ?_)
  refine lv_aload_n hx hb dX7_kind_5 rfl (lv_at hl 0 rfl) ?_
  refine lv_iload_n hx hb dX7_kind_6 rfl (lv_at hl 1 rfl) ?_
  obtain ⟨r1, e2, h⟩ := bd1_s h
  refine kc_vi (rest := []) (wr := [(aM_beside, .inl (cI, 8, .inl M_beside))]) (wF := [(aM, .inr (7, [.int 0, .int M_status, .ref aM_lane, .ref aM_many, .ref aM_item, .int M_posts, .ref aM_beside, .int M_rounds, .ref aM_round, .int M_read, .ref aM_reads, .ref aM_tape, .int M_taped, .int M_latest, .int M_length, .int M_at, .int M_sort, .int M_from, .int M_till, .int M_fault, .int M_faultAt, .ref aM_fewest, .ref aM_may, .ref aM_then, .ref aM_cases, .ref aM_next, .ref aM_trace, .int M_traced])), (aM_beside, .inl (cI, 8, .inl M_beside))]) ⟨hx, hb, hml, hown, hts⟩ (c_X7_isPost l dC dI cI cJ cZ cA aM aM_lane aM_many aM_item aM_beside aM_round aM_reads aM_tape aM_fewest aM_may aM_then aM_cases aM_next aM_trace 0 M_status M_posts M_rounds M_read M_taped M_latest M_length M_at M_sort M_from M_till M_fault M_faultAt M_traced p0 r1 e2) (cwV 1 hts gX7_kind_X7_isPost rfl rfl rfl (by decide +kernel) ⟨Nat.le_of_ble_eq_true rfl, Nat.le_of_ble_eq_true rfl⟩) hK hP hD hS hA [0] [1] [1, 0] 0 rfl rfl rfl rfl (by decide) rfl rfl rfl rfl rfl rfl hl.1 rfl (Nat.le_of_ble_eq_true rfl) dX7_kind_7 ⟨Nat.zero_le _, Nat.zero_le _⟩ (fun H locs hP hD hS => ?_)
  refine lv_if_eq (tgt := 21) hx hb dX7_kind_10 (by decide) (fun c3 => ?_) (fun c3 => ?_)
  · have h := ift c3 h
    refine lv_ldc hx hb hown k_1 dX7_kind_21 ?_
    obtain ⟨rfl, rfl⟩ := sj2 h
    exact hret _ _ _ _ _ rfl rfl hP hD hS dX7_kind_23
  · have h := ifn c3 h
    refine lv_aload_n hx hb dX7_kind_13 rfl (lv_at hl 0 rfl) ?_
    refine lv_iload_n hx hb dX7_kind_14 rfl (lv_at hl 1 rfl) ?_
    obtain ⟨r4, e5, h⟩ := bd1_s h
    refine kc_vi (rest := []) (wr := []) (wF := [(aM, .inr (7, [.int 0, .int M_status, .ref aM_lane, .ref aM_many, .ref aM_item, .int M_posts, .ref aM_beside, .int M_rounds, .ref aM_round, .int M_read, .ref aM_reads, .ref aM_tape, .int M_taped, .int M_latest, .int M_length, .int M_at, .int M_sort, .int M_from, .int M_till, .int M_fault, .int M_faultAt, .ref aM_fewest, .ref aM_may, .ref aM_then, .ref aM_cases, .ref aM_next, .ref aM_trace, .int M_traced])), (aM_beside, .inl (cI, 8, .inl M_beside))]) ⟨hx, hb, hml, hown, hts⟩ (c_X7_kindOf l dC dI cI cJ cZ cA aM aM_lane aM_many aM_item aM_beside aM_round aM_reads aM_tape aM_fewest aM_may aM_then aM_cases aM_next aM_trace 0 M_status M_posts M_rounds M_read M_taped M_latest M_length M_at M_sort M_from M_till M_fault M_faultAt M_traced M_beside p0 r4 e5) (cwV 1 hts gX7_kind_X7_kindOf rfl rfl rfl (by decide +kernel) ⟨Nat.le_of_ble_eq_true rfl, Nat.le_of_ble_eq_true rfl⟩) hK hP hD hS hA [0, 1] [] [0, 1] 0 rfl rfl rfl rfl (by decide) rfl rfl rfl rfl rfl rfl hl.1 rfl (Nat.le_of_ble_eq_true rfl) dX7_kind_15 ⟨Nat.zero_le _, Nat.zero_le _⟩ (fun H locs hP hD hS => ?_)
    refine lv_goto (tgt := 23) hx hb dX7_kind_18 (by decide) ?_
    obtain ⟨rfl, rfl⟩ := sj2 h
    exact hret _ _ _ _ _ rfl rfl hP hD hS dX7_kind_23
set_option maxHeartbeats 4000000 in
set_option maxRecDepth 100000 in
theorem c_X7_as (l : Launch) (dC : Nat → ClassId) (dI : Nat → Nat → Nat) (cI cJ cZ cA : ClassId) (aM aM_lane aM_many aM_item aM_beside aM_round aM_reads aM_tape aM_fewest aM_may aM_then aM_cases aM_next aM_trace : Nat) (M_thrown : Int32) (M_status : Int32) (M_posts : Int32) (M_rounds : Int32) (M_read : Int32) (M_taped : Int32) (M_latest : Int32) (M_length : Int32) (M_at : Int32) (M_sort : Int32) (M_from : Int32) (M_till : Int32) (M_fault : Int32) (M_faultAt : Int32) (M_traced : Int32) (M_beside : Nat → Int32) (p0 : Int32) (p1 : Int32) (rr : Int32) (M_thrown_z : Int32) (M_status_z : Int32) (h : fX7_as M_thrown M_status M_posts M_beside p0 p1 = some (rr, M_thrown_z, M_status_z)) : Cti l yX7_as wsX7_as rmX7_as (dC, dI) (tyL cI cJ cZ cA) [(aM, .inr (7, [.int M_thrown, .int M_status, .ref aM_lane, .ref aM_many, .ref aM_item, .int M_posts, .ref aM_beside, .int M_rounds, .ref aM_round, .int M_read, .ref aM_reads, .ref aM_tape, .int M_taped, .int M_latest, .int M_length, .int M_at, .int M_sort, .int M_from, .int M_till, .int M_fault, .int M_faultAt, .ref aM_fewest, .ref aM_may, .ref aM_then, .ref aM_cases, .ref aM_next, .ref aM_trace, .int M_traced])), (aM_beside, .inl (cI, 8, .inl M_beside))] [(aM, .inr (7, [.int M_thrown_z, .int M_status_z, .ref aM_lane, .ref aM_many, .ref aM_item, .int M_posts, .ref aM_beside, .int M_rounds, .ref aM_round, .int M_read, .ref aM_reads, .ref aM_tape, .int M_taped, .int M_latest, .int M_length, .int M_at, .int M_sort, .int M_from, .int M_till, .int M_fault, .int M_faultAt, .ref aM_fewest, .ref aM_may, .ref aM_then, .ref aM_cases, .ref aM_next, .ref aM_trace, .int M_traced])), (aM_beside, .inl (cI, 8, .inl M_beside))] [.ref aM, .int p0, .int p1] rr := by
  refine ct_int (ty := .int) (cc := cX7_as) (maxL := 3) (by decide) rfl (Nat.le_of_ble_eq_true rfl) ?_
  intro p e s m args below meth c A Q ls hx hb hml hown hts hA hK hP hD hS hl hret
  have hl : lv_has ls 3 [(0, .ref aM), (1, .int p0), (2, .int p1)] := hl
  have k_0 := hts (.fieldLink RX7 51 "BeepNetModel" "thrown" "I") (by decide +kernel)
  have k_1 := hts (.constant RX7 71 (-1000001)) (by decide +kernel)
  have k_2 := hts (.constantLong RX7 206 (4)) (by decide +kernel)
  have k_3 := hts (.fieldLink RX7 55 "BeepNetModel" "status" "I") (by decide +kernel)
  have k_4 := hts (.fieldLink RX7 19 "BeepNetModel" "beside" "[I") (by decide +kernel)
  have hiX7 : ∀ w ∈ u_ws RX7 TX7 28, w ∈ wsX7_as := fun w hw => List.mem_cons_of_mem _ (List.mem_append_right _ hw)
  unfold fX7_as at h
  refine lv_aload_n hx hb dX7_as_0 rfl (lv_at hl 0 rfl) ?_
  refine lv_iconst (v := 0) hx hb dX7_as_1 (by decide) ?_
  refine ka_put (w1 := [(aM, .inr (7, [.int 0, .int M_status, .ref aM_lane, .ref aM_many, .ref aM_item, .int M_posts, .ref aM_beside, .int M_rounds, .ref aM_round, .int M_read, .ref aM_reads, .ref aM_tape, .int M_taped, .int M_latest, .int M_length, .int M_at, .int M_sort, .int M_from, .int M_till, .int M_fault, .int M_faultAt, .ref aM_fewest, .ref aM_may, .ref aM_then, .ref aM_cases, .ref aM_next, .ref aM_trace, .int M_traced])), (aM_beside, .inl (cI, 8, .inl M_beside))]) (C := RX7) (T := TX7) (Nf := 28) (ref := "BeepNetModel") hx hb hts hiX7 tyX7 tyX7_ok nmX7 hown hK hP hD hS 0 rfl rfl 0 (by decide) k_0 rfl rfl rfl (Nat.le_of_ble_eq_true rfl) dX7_as_2 rfl (fun H locs hP hD hS => ?_)
  refine lv_aload_n hx hb dX7_as_5 rfl (lv_at hl 0 rfl) ?_
  refine lv_iload_n hx hb dX7_as_6 rfl (lv_at hl 1 rfl) ?_
  obtain ⟨r1, e2, h⟩ := bd1_s h
  refine kc_vi (rest := []) (wr := [(aM_beside, .inl (cI, 8, .inl M_beside))]) (wF := [(aM, .inr (7, [.int 0, .int M_status, .ref aM_lane, .ref aM_many, .ref aM_item, .int M_posts, .ref aM_beside, .int M_rounds, .ref aM_round, .int M_read, .ref aM_reads, .ref aM_tape, .int M_taped, .int M_latest, .int M_length, .int M_at, .int M_sort, .int M_from, .int M_till, .int M_fault, .int M_faultAt, .ref aM_fewest, .ref aM_may, .ref aM_then, .ref aM_cases, .ref aM_next, .ref aM_trace, .int M_traced])), (aM_beside, .inl (cI, 8, .inl M_beside))]) ⟨hx, hb, hml, hown, hts⟩ (c_X7_isPost l dC dI cI cJ cZ cA aM aM_lane aM_many aM_item aM_beside aM_round aM_reads aM_tape aM_fewest aM_may aM_then aM_cases aM_next aM_trace 0 M_status M_posts M_rounds M_read M_taped M_latest M_length M_at M_sort M_from M_till M_fault M_faultAt M_traced p0 r1 e2) (cwV 1 hts gX7_as_X7_isPost rfl rfl rfl (by decide +kernel) ⟨Nat.le_of_ble_eq_true rfl, Nat.le_of_ble_eq_true rfl⟩) hK hP hD hS hA [0] [1] [1, 0] 0 rfl rfl rfl rfl (by decide) rfl rfl rfl rfl rfl rfl hl.1 rfl (Nat.le_of_ble_eq_true rfl) dX7_as_7 ⟨Nat.zero_le _, Nat.zero_le _⟩ (fun H locs hP hD hS => ?_)
  refine lv_if_eq (tgt := 25) hx hb dX7_as_10 (by decide) (fun c3 => ?_) (fun c3 => ?_)
  · have h := ift c3 h
    refine lv_ldc hx hb hown k_1 dX7_as_25 ?_
    obtain ⟨rfl, rfl, rfl⟩ := sj3 h
    exact hret _ _ _ _ _ rfl rfl hP hD hS dX7_as_27
  · have h := ifn c3 h
    refine lv_iload_n hx hb dX7_as_13 rfl (lv_at hl 2 rfl) ?_
    refine lv_i2l hx hb dX7_as_14 rfl ?_
    refine lv_lconst (v := 0) hx hb dX7_as_15 (by decide) ?_
    refine lv_ldc2 hx hb hown k_2 dX7_as_16 ?_
    obtain ⟨r4, e5, h⟩ := bd1_s h
    refine kc_si (rest := []) (wr := [(aM, .inr (7, [.int 0, .int M_status, .ref aM_lane, .ref aM_many, .ref aM_item, .int M_posts, .ref aM_beside, .int M_rounds, .ref aM_round, .int M_read, .ref aM_reads, .ref aM_tape, .int M_taped, .int M_latest, .int M_length, .int M_at, .int M_sort, .int M_from, .int M_till, .int M_fault, .int M_faultAt, .ref aM_fewest, .ref aM_may, .ref aM_then, .ref aM_cases, .ref aM_next, .ref aM_trace, .int M_traced])), (aM_beside, .inl (cI, 8, .inl M_beside))]) (wF := [(aM, .inr (7, [.int 0, .int M_status, .ref aM_lane, .ref aM_many, .ref aM_item, .int M_posts, .ref aM_beside, .int M_rounds, .ref aM_round, .int M_read, .ref aM_reads, .ref aM_tape, .int M_taped, .int M_latest, .int M_length, .int M_at, .int M_sort, .int M_from, .int M_till, .int M_fault, .int M_faultAt, .ref aM_fewest, .ref aM_may, .ref aM_then, .ref aM_cases, .ref aM_next, .ref aM_trace, .int M_traced])), (aM_beside, .inl (cI, 8, .inl M_beside))]) ⟨hx, hb, hml, hown, hts⟩ (c_X7_in l dC dI cI cJ cZ cA p1.toInt64 0 4 r4 e5) (va_cwS 3 hts gX7_as_X7_in rfl rfl rfl (by decide +kernel) ⟨Nat.le_of_ble_eq_true rfl, Nat.le_of_ble_eq_true rfl⟩) hK hP hD hS hA [] [0, 1] [0, 1] rfl rfl rfl rfl (by decide) rfl rfl rfl hl.1 rfl (Nat.le_of_ble_eq_true rfl) dX7_as_19 ⟨Nat.zero_le _, Nat.zero_le _⟩ (fun H locs hP hD hS => ?_)
    refine lv_if_ne (tgt := 28) hx hb dX7_as_22 (by decide) (fun c6 => ?_) (fun c6 => ?_)
    · have h := ifn c6 h
      refine lv_aload_n hx hb dX7_as_28 rfl (lv_at hl 0 rfl) ?_
      refine lv_iconst (v := 0) hx hb dX7_as_29 (by decide) ?_
      refine ka_put (w1 := [(aM, .inr (7, [.int 0, .int 0, .ref aM_lane, .ref aM_many, .ref aM_item, .int M_posts, .ref aM_beside, .int M_rounds, .ref aM_round, .int M_read, .ref aM_reads, .ref aM_tape, .int M_taped, .int M_latest, .int M_length, .int M_at, .int M_sort, .int M_from, .int M_till, .int M_fault, .int M_faultAt, .ref aM_fewest, .ref aM_may, .ref aM_then, .ref aM_cases, .ref aM_next, .ref aM_trace, .int M_traced])), (aM_beside, .inl (cI, 8, .inl M_beside))]) (C := RX7) (T := TX7) (Nf := 28) (ref := "BeepNetModel") hx hb hts hiX7 tyX7 tyX7_ok nmX7 hown hK hP hD hS 0 rfl rfl 1 (by decide) k_3 rfl rfl rfl (Nat.le_of_ble_eq_true rfl) dX7_as_30 rfl (fun H locs hP hD hS => ?_)
      refine lv_aload_n hx hb dX7_as_33 rfl (lv_at hl 0 rfl) ?_
      refine lv_iload_n hx hb dX7_as_34 rfl (lv_at hl 1 rfl) ?_
      obtain ⟨r7, e8, h⟩ := bd1_s h
      refine kc_vi (rest := []) (wr := []) (wF := [(aM, .inr (7, [.int 0, .int 0, .ref aM_lane, .ref aM_many, .ref aM_item, .int M_posts, .ref aM_beside, .int M_rounds, .ref aM_round, .int M_read, .ref aM_reads, .ref aM_tape, .int M_taped, .int M_latest, .int M_length, .int M_at, .int M_sort, .int M_from, .int M_till, .int M_fault, .int M_faultAt, .ref aM_fewest, .ref aM_may, .ref aM_then, .ref aM_cases, .ref aM_next, .ref aM_trace, .int M_traced])), (aM_beside, .inl (cI, 8, .inl M_beside))]) ⟨hx, hb, hml, hown, hts⟩ (c_X7_kindOf l dC dI cI cJ cZ cA aM aM_lane aM_many aM_item aM_beside aM_round aM_reads aM_tape aM_fewest aM_may aM_then aM_cases aM_next aM_trace 0 0 M_posts M_rounds M_read M_taped M_latest M_length M_at M_sort M_from M_till M_fault M_faultAt M_traced M_beside p0 r7 e8) (cwV 1 hts gX7_as_X7_kindOf rfl rfl rfl (by decide +kernel) ⟨Nat.le_of_ble_eq_true rfl, Nat.le_of_ble_eq_true rfl⟩) hK hP hD hS hA [0, 1] [] [0, 1] 0 rfl rfl rfl rfl (by decide) rfl rfl rfl rfl rfl rfl hl.1 rfl (Nat.le_of_ble_eq_true rfl) dX7_as_35 ⟨Nat.zero_le _, Nat.zero_le _⟩ (fun H locs hP hD hS => ?_)
      refine lv_iload_n hx hb dX7_as_38 rfl (lv_at hl 2 rfl) ?_
      obtain ⟨r9, e10, h⟩ := bd1_s h
      refine kc_si (rest := []) (wr := [(aM, .inr (7, [.int 0, .int 0, .ref aM_lane, .ref aM_many, .ref aM_item, .int M_posts, .ref aM_beside, .int M_rounds, .ref aM_round, .int M_read, .ref aM_reads, .ref aM_tape, .int M_taped, .int M_latest, .int M_length, .int M_at, .int M_sort, .int M_from, .int M_till, .int M_fault, .int M_faultAt, .ref aM_fewest, .ref aM_may, .ref aM_then, .ref aM_cases, .ref aM_next, .ref aM_trace, .int M_traced])), (aM_beside, .inl (cI, 8, .inl M_beside))]) (wF := [(aM, .inr (7, [.int 0, .int 0, .ref aM_lane, .ref aM_many, .ref aM_item, .int M_posts, .ref aM_beside, .int M_rounds, .ref aM_round, .int M_read, .ref aM_reads, .ref aM_tape, .int M_taped, .int M_latest, .int M_length, .int M_at, .int M_sort, .int M_from, .int M_till, .int M_fault, .int M_faultAt, .ref aM_fewest, .ref aM_may, .ref aM_then, .ref aM_cases, .ref aM_next, .ref aM_trace, .int M_traced])), (aM_beside, .inl (cI, 8, .inl M_beside))]) ⟨hx, hb, hml, hown, hts⟩ (c_X7_isOf l dC dI cI cJ cZ cA r7 p1 r9 e10) (va_cwS 2 hts gX7_as_X7_isOf rfl rfl rfl (by decide +kernel) ⟨Nat.le_of_ble_eq_true rfl, Nat.le_of_ble_eq_true rfl⟩) hK hP hD hS hA [] [0, 1] [0, 1] rfl rfl rfl rfl (by decide) rfl rfl rfl hl.1 rfl (Nat.le_of_ble_eq_true rfl) dX7_as_39 ⟨Nat.zero_le _, Nat.zero_le _⟩ (fun H locs hP hD hS => ?_)
      refine lv_if_eq (tgt := 57) hx hb dX7_as_42 (by decide) (fun c11 => ?_) (fun c11 => ?_)
      · have h := ift c11 h
        refine lv_aload_n hx hb dX7_as_57 rfl (lv_at hl 0 rfl) ?_
        refine lv_iconst (v := 3) hx hb dX7_as_58 (by decide) ?_
        obtain ⟨r12, M_status_13, e14, h⟩ := bd2_s h
        refine kc_vi (rest := []) (wr := [(aM_beside, .inl (cI, 8, .inl M_beside))]) (wF := [(aM, .inr (7, [.int 0, .int M_status_13, .ref aM_lane, .ref aM_many, .ref aM_item, .int M_posts, .ref aM_beside, .int M_rounds, .ref aM_round, .int M_read, .ref aM_reads, .ref aM_tape, .int M_taped, .int M_latest, .int M_length, .int M_at, .int M_sort, .int M_from, .int M_till, .int M_fault, .int M_faultAt, .ref aM_fewest, .ref aM_may, .ref aM_then, .ref aM_cases, .ref aM_next, .ref aM_trace, .int M_traced])), (aM_beside, .inl (cI, 8, .inl M_beside))]) ⟨hx, hb, hml, hown, hts⟩ (c_X7_found l dC dI cI cJ cZ cA aM aM_lane aM_many aM_item aM_beside aM_round aM_reads aM_tape aM_fewest aM_may aM_then aM_cases aM_next aM_trace 0 0 M_posts M_rounds M_read M_taped M_latest M_length M_at M_sort M_from M_till M_fault M_faultAt M_traced 3 r12 M_status_13 e14) (cwV 1 hts gX7_as_X7_found rfl rfl rfl (by decide +kernel) ⟨Nat.le_of_ble_eq_true rfl, Nat.le_of_ble_eq_true rfl⟩) hK hP hD hS hA [0] [1] [1, 0] 0 rfl rfl rfl rfl (by decide) rfl rfl rfl rfl rfl rfl hl.1 rfl (Nat.le_of_ble_eq_true rfl) dX7_as_59 ⟨Nat.zero_le _, Nat.zero_le _⟩ (fun H locs hP hD hS => ?_)
        obtain ⟨rfl, rfl, rfl⟩ := sj3 h
        exact hret _ _ _ _ _ rfl rfl hP hD hS dX7_as_62
      · have h := ifn c11 h
        refine lv_aload_n hx hb dX7_as_45 rfl (lv_at hl 0 rfl) ?_
        refine ka_get (v := .ref aM_beside) (C := RX7) (T := TX7) (Nf := 28) (ref := "BeepNetModel") hx hb hts hiX7 hown hK hP 0 rfl rfl 6 (by decide) k_4 rfl rfl dX7_as_46 ?_
        refine lv_iload_n hx hb dX7_as_49 rfl (lv_at hl 1 rfl) ?_
        obtain ⟨v15, ev15, hn16, h⟩ := ldx_s h
        refine ka_ild hx hb hK hP 1 0 ev15 rfl rfl hn16 dX7_as_50 ?_
        obtain ⟨r17, e18, h⟩ := bd1_s h
        refine kc_si (rest := []) (wr := [(aM, .inr (7, [.int 0, .int 0, .ref aM_lane, .ref aM_many, .ref aM_item, .int M_posts, .ref aM_beside, .int M_rounds, .ref aM_round, .int M_read, .ref aM_reads, .ref aM_tape, .int M_taped, .int M_latest, .int M_length, .int M_at, .int M_sort, .int M_from, .int M_till, .int M_fault, .int M_faultAt, .ref aM_fewest, .ref aM_may, .ref aM_then, .ref aM_cases, .ref aM_next, .ref aM_trace, .int M_traced])), (aM_beside, .inl (cI, 8, .inl M_beside))]) (wF := [(aM, .inr (7, [.int 0, .int 0, .ref aM_lane, .ref aM_many, .ref aM_item, .int M_posts, .ref aM_beside, .int M_rounds, .ref aM_round, .int M_read, .ref aM_reads, .ref aM_tape, .int M_taped, .int M_latest, .int M_length, .int M_at, .int M_sort, .int M_from, .int M_till, .int M_fault, .int M_faultAt, .ref aM_fewest, .ref aM_may, .ref aM_then, .ref aM_cases, .ref aM_next, .ref aM_trace, .int M_traced])), (aM_beside, .inl (cI, 8, .inl M_beside))]) ⟨hx, hb, hml, hown, hts⟩ (c_X7_size l dC dI cI cJ cZ cA v15 r17 e18) (va_cwS 1 hts gX7_as_X7_size rfl rfl rfl (by decide +kernel) ⟨Nat.le_of_ble_eq_true rfl, Nat.le_of_ble_eq_true rfl⟩) hK hP hD hS hA [] [0, 1] [0, 1] rfl rfl rfl rfl (by decide) rfl rfl rfl hl.1 rfl (Nat.le_of_ble_eq_true rfl) dX7_as_51 ⟨Nat.zero_le _, Nat.zero_le _⟩ (fun H locs hP hD hS => ?_)
        refine lv_goto (tgt := 62) hx hb dX7_as_54 (by decide) ?_
        obtain ⟨rfl, rfl, rfl⟩ := sj3 h
        exact hret _ _ _ _ _ rfl rfl hP hD hS dX7_as_62
    · have h := ift c6 h
      refine lv_ldc hx hb hown k_1 dX7_as_25 ?_
      obtain ⟨rfl, rfl, rfl⟩ := sj3 h
      exact hret _ _ _ _ _ rfl rfl hP hD hS dX7_as_27
