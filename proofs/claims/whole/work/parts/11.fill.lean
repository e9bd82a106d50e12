/-! Arrays.fill, by hand: any length -/
def fillI (N : Nat) (f : Nat → Int32) (v : Int32) : Nat → Int32 := fun j => if j < N then v else f j
def fillL (N : Nat) (f : Nat → Int64) (v : Int64) : Nat → Int64 := fun j => if j < N then v else f j
theorem fillI_0 (f : Nat → Int32) (v : Int32) : fillI 0 f v = f := by funext j; simp [fillI]
theorem fillL_0 (f : Nat → Int64) (v : Int64) : fillL 0 f v = f := by funext j; simp [fillL]
theorem fillI_s (i : Nat) (f : Nat → Int32) (v : Int32) : fillI (i + 1) f v = upd (fillI i f v) i v := by
  funext j
  by_cases h : j = i
  · subst h; simp [fillI, upd]
  · by_cases h2 : j < i
    · simp [fillI, upd, h, h2, Nat.lt_succ_of_lt h2]
    · simp [fillI, upd, h, h2, show ¬ j < i + 1 by omega]
theorem fillL_s (i : Nat) (f : Nat → Int64) (v : Int64) : fillL (i + 1) f v = vp_updL (fillL i f v) i v := by
  funext j
  by_cases h : j = i
  · subst h; simp [fillL, vp_updL]
  · by_cases h2 : j < i
    · simp [fillL, vp_updL, h, h2, Nat.lt_succ_of_lt h2]
    · simp [fillL, vp_updL, h, h2, show ¬ j < i + 1 by omega]
def rmJ7_fill_53178 : Room := { frames := 0, cells := 0, slots := 0, locals := 0 }
def rmJ7_fill_d0a16 : Room := { frames := 0, cells := 0, slots := 0, locals := 0 }
set_option maxHeartbeats 4000000 in
set_option maxRecDepth 100000 in
theorem c_J7_fill_53178 (l : Launch) (dC : Nat → ClassId) (dI : Nat → Nat → Nat) (cI cJ cZ cA : ClassId) (a N : Nat) (f : Nat → Int32) (v : Int32) (g : Nat → Int32) (hN : N < 100000) (eg : g = fillI N f v) : Ctv l yJ7_fill_53178 wsJ7_fill_53178 rmJ7_fill_53178 (dC, dI) (tyL cI cJ cZ cA) [(a, .inl (cI, N, .inl f))] [(a, .inl (cI, N, .inl g))] [.ref a, .int v] := by
  refine ct_void (cc := cJ7_fill_53178) (maxL := 4) (by decide) rfl (Nat.le_of_ble_eq_true rfl) ?_
  intro p e s m args below meth c A Q ls hx hb hml hown hts hA hK hP hD hS hl hret
  have hl : lv_has ls 4 [(0, .ref a), (1, .int v)] := hl
  have hC : ∀ (n i : Nat) (H : Heap) (locs : List Loc) (ls : Array Slot), i + n = N → va_P (dC, dI) vwCl [(a, .inl (cI, N, .inl (fillI i f v)))] H → va_D A [(a, .inl (cI, N, .inl (fillI i f v)))] → va_S A s.heap H locs → lv_has ls 4 [(0, .ref a), (1, .int v), (2, .int (nI i)), (3, .int (nI N))] → W p l e rmJ7_fill_53178 s m args below meth c H locs 0 0 Q (F0 m 5 ls []) := by
    intro n
    induction n with
    | zero =>
      intro i H locs ls hi hP hD hS hl
      refine lv_iload_n hx hb dJ7_fill_53178_5 rfl (lv_at hl 2 rfl) ?_
      refine lv_iload_n hx hb dJ7_fill_53178_6 rfl (lv_at hl 3 rfl) ?_
      refine lv_icmp_ge (tgt := 20) hx hb dJ7_fill_53178_7 (by decide) (fun _ => ?_) (fun c1 => absurd (nI_le (by omega) (by omega)) c1)
      have hi : i = N := hi
      subst hi
      subst eg
      exact hret _ _ _ _ hP hD hS dJ7_fill_53178_20
    | succ n ih =>
      intro i H locs ls hi hP hD hS hl
      refine lv_iload_n hx hb dJ7_fill_53178_5 rfl (lv_at hl 2 rfl) ?_
      refine lv_iload_n hx hb dJ7_fill_53178_6 rfl (lv_at hl 3 rfl) ?_
      refine lv_icmp_ge (tgt := 20) hx hb dJ7_fill_53178_7 (by decide) (fun c1 => absurd c1 (nI_ge (by omega) (by omega))) (fun _ => ?_)
      refine lv_aload_n hx hb dJ7_fill_53178_10 rfl (lv_at hl 0 rfl) ?_
      refine lv_iload_n hx hb dJ7_fill_53178_11 rfl (lv_at hl 2 rfl) ?_
      refine lv_iload_n hx hb dJ7_fill_53178_12 rfl (lv_at hl 1 rfl) ?_
      refine ka_ist (w1 := [(a, .inl (cI, N, .inl (fillI (i + 1) f v)))]) hx hb hK hP hD hS 0 0 (g := fillI (i + 1) f v) (by rw [nI_clamp (by omega)]; exact fillI_s i f v) rfl rfl (vp_in_nI (by omega) (by omega)) dJ7_fill_53178_13 rfl (fun H locs hP hD hS => ?_)
      refine lv_iinc (v := nI (i + 1)) (lv' := [(2, .int (nI (i + 1))), (0, .ref a), (1, .int v), (3, .int (nI N))]) hx hb dJ7_fill_53178_14 hl (k := 2) rfl (nI_1 i) (by decide) rfl (fun ls hl => ?_)
      refine lv_goto (tgt := 5) hx hb dJ7_fill_53178_17 (by decide) ?_
      exact ih (i + 1) _ _ _ (by omega) hP hD hS (lv_sub hl [1, 2, 0, 3] rfl)
  refine lv_iconst (v := nI 0) hx hb dJ7_fill_53178_0 (by decide) ?_
  refine lv_istore_n (lv' := [(2, .int (nI 0)), (0, .ref a), (1, .int v)]) hx hb dJ7_fill_53178_1 rfl hl (by decide) rfl (fun ls hl => ?_)
  refine lv_aload_n hx hb dJ7_fill_53178_2 rfl (lv_at hl 1 rfl) ?_
  refine va_alen hx hb hK hP 0 0 rfl rfl (v := nI N) rfl dJ7_fill_53178_3 ?_
  refine lv_istore_n (lv' := [(3, .int (nI N)), (2, .int (nI 0)), (0, .ref a), (1, .int v)]) hx hb dJ7_fill_53178_4 rfl hl (by decide) rfl (fun ls hl => ?_)
  exact hC N 0 _ _ _ (by omega) (by rw [fillI_0]; exact hP) (by rw [fillI_0]; exact hD) hS (lv_sub hl [2, 3, 1, 0] rfl)
set_option maxHeartbeats 4000000 in
set_option maxRecDepth 100000 in
theorem c_J7_fill_d0a16 (l : Launch) (dC : Nat → ClassId) (dI : Nat → Nat → Nat) (cI cJ cZ cA : ClassId) (a N : Nat) (f : Nat → Int64) (v : Int64) (g : Nat → Int64) (hN : N < 100000) (eg : g = fillL N f v) : Ctv l yJ7_fill_d0a16 wsJ7_fill_d0a16 rmJ7_fill_d0a16 (dC, dI) (tyL cI cJ cZ cA) [(a, .inl (cJ, N, .inr (.inl f)))] [(a, .inl (cJ, N, .inr (.inl g)))] [.ref a, .long v] := by
  refine ct_void (cc := cJ7_fill_d0a16) (maxL := 5) (by decide) rfl (Nat.le_of_ble_eq_true rfl) ?_
  intro p e s m args below meth c A Q ls hx hb hml hown hts hA hK hP hD hS hl hret
  have hl : lv_has ls 5 [(0, .ref a), (1, .long v)] := hl
  have hC : ∀ (n i : Nat) (H : Heap) (locs : List Loc) (ls : Array Slot), i + n = N → va_P (dC, dI) vwCl [(a, .inl (cJ, N, .inr (.inl (fillL i f v))))] H → va_D A [(a, .inl (cJ, N, .inr (.inl (fillL i f v))))] → va_S A s.heap H locs → lv_has ls 5 [(0, .ref a), (1, .long v), (3, .int (nI i)), (4, .int (nI N))] → W p l e rmJ7_fill_d0a16 s m args below meth c H locs 0 0 Q (F0 m 6 ls []) := by
    intro n
    induction n with
    | zero =>
      intro i H locs ls hi hP hD hS hl
      refine lv_iload_n hx hb dJ7_fill_d0a16_6 rfl (lv_at hl 2 rfl) ?_
      refine lv_iload hx hb dJ7_fill_d0a16_7 (lv_at hl 3 rfl) ?_
      refine lv_icmp_ge (tgt := 22) hx hb dJ7_fill_d0a16_9 (by decide) (fun _ => ?_) (fun c1 => absurd (nI_le (by omega) (by omega)) c1)
      have hi : i = N := hi
      subst hi
      subst eg
      exact hret _ _ _ _ hP hD hS dJ7_fill_d0a16_22
    | succ n ih =>
      intro i H locs ls hi hP hD hS hl
      refine lv_iload_n hx hb dJ7_fill_d0a16_6 rfl (lv_at hl 2 rfl) ?_
      refine lv_iload hx hb dJ7_fill_d0a16_7 (lv_at hl 3 rfl) ?_
      refine lv_icmp_ge (tgt := 22) hx hb dJ7_fill_d0a16_9 (by decide) (fun c1 => absurd c1 (nI_ge (by omega) (by omega))) (fun _ => ?_)
      refine lv_aload_n hx hb dJ7_fill_d0a16_12 rfl (lv_at hl 0 rfl) ?_
      refine lv_iload_n hx hb dJ7_fill_d0a16_13 rfl (lv_at hl 2 rfl) ?_
      refine lv_lload_n hx hb dJ7_fill_d0a16_14 rfl (lv_at hl 1 rfl) ?_
      refine ka_lst (w1 := [(a, .inl (cJ, N, .inr (.inl (fillL (i + 1) f v))))]) hx hb hK hP hD hS 0 1 (g := fillL (i + 1) f v) (by rw [nI_clamp (by omega)]; exact fillL_s i f v) rfl rfl (vp_in_nI (by omega) (by omega)) dJ7_fill_d0a16_15 rfl (fun H locs hP hD hS => ?_)
      refine lv_iinc (v := nI (i + 1)) (lv' := [(3, .int (nI (i + 1))), (0, .ref a), (1, .long v), (4, .int (nI N))]) hx hb dJ7_fill_d0a16_16 hl (k := 2) rfl (nI_1 i) (by decide) rfl (fun ls hl => ?_)
      refine lv_goto (tgt := 6) hx hb dJ7_fill_d0a16_19 (by decide) ?_
      exact ih (i + 1) _ _ _ (by omega) hP hD hS (lv_sub hl [1, 2, 0, 3] rfl)
  refine lv_iconst (v := nI 0) hx hb dJ7_fill_d0a16_0 (by decide) ?_
  refine lv_istore_n (lv' := [(3, .int (nI 0)), (0, .ref a), (1, .long v)]) hx hb dJ7_fill_d0a16_1 rfl hl (by decide) rfl (fun ls hl => ?_)
  refine lv_aload_n hx hb dJ7_fill_d0a16_2 rfl (lv_at hl 1 rfl) ?_
  refine va_alen hx hb hK hP 0 1 rfl rfl (v := nI N) rfl dJ7_fill_d0a16_3 ?_
  refine lv_istore (lv' := [(4, .int (nI N)), (3, .int (nI 0)), (0, .ref a), (1, .long v)]) hx hb dJ7_fill_d0a16_4 hl (by decide) rfl (fun ls hl => ?_)
  exact hC N 0 _ _ _ (by omega) (by rw [fillL_0]; exact hP) (by rw [fillL_0]; exact hD) hS (lv_sub hl [2, 3, 1, 0] rfl)
