/-! the three words: String.length, String.charAt, and isWord -/
section KT
variable {p : Program} {l : Launch} {e : Env} {R : Room} {s : State} {m : MethodId} {args : Array Value} {below : List Frame} {meth : Method} {c : Code} {H : Heap} {locs : List Loc} {cells slots : Nat} {Q : State → Prop}
  {Ts ws ws' : List Cond} {cc bytes : ByteArray} {nL maxL index n pc : Nat} {own : String} {y : MethodName} {ret : Option FieldType} {rm : Room} {ls : Array Slot}
  {As rest st0 : List Value} {D : va_G} {tys : List (ClassId × FieldType)} {w wF : va_W} {A : Nat → Prop} {sk sv : Nat → Nat} {k : Nat}
theorem kt_vi {r : Int32} (hX : XS sk sv A s s.heap) (hk : k < 3) (S : CallFix p m c cc nL s args Ts own) (hM : CtiX l y ws rm D tys sk sv [] [] (.ref (sk k) :: As) r) (cw : CallW R s args own "java/lang/String" index y bytes maxL ret ws rm 0 0 n)
    (hK : va_K D vwCl tys s) (hP : va_P D vwCl w H) (hD : va_D A w) (hS : va_S A s.heap H locs) (hA : ∀ q : Nat, s.heap.size ≤ q → A q) (isR : List Nat) (hR : isR.map (fun i => w[i]?) = w.map some) (hnR : va_nd isR = true)
    (hn : As.length = n) (hsize : ls.size = nL) (hst : st0 = As.reverse ++ .ref (sk k) :: rest) (hW : (rest.map fun v => v.category).sum ≤ 8) (hdg : decode cc pc = .ok (.invokevirtual index, 3)) (hf : cells + 0 ≤ R.cells ∧ slots + 0 ≤ R.slots)
    (kk : ∀ (H1 : Heap) (locs1 : List Loc), va_P D vwCl w H1 → va_D A w → va_S A s.heap H1 locs1 → W p l e R s m args below meth c H1 locs1 cells slots Q (F0 m (pc + 3) ls (.int r :: rest))) : W p l e R s m args below meth c H locs cells slots Q (F0 m pc ls st0) := by
  have hC : ([] : List Nat).map (fun i => w[i]?) = ([] : va_W).map some := rfl
  have hFc := va_free (wc := []) hD hS hA [] hC
  refine va_calli (va_runV S (hM H.size) cw ⟨ct_blindX, vk_recv hX.1 hk hS, fun U hU hW => kc_preX hX hK hP hD hS hFc [] hC rfl U hU hW⟩ rfl hn hsize hst (lv_room hW) hdg hf) hS (fun q _ h => hFc q h) hFc (fun r1 u t H1 locs1 ht hvm hw hB hz1 hk1 hS1 => ?_)
  subst hw
  obtain ⟨hP1, hK1, hD1⟩ := hB
  rw [ht] at hP1
  obtain ⟨hP2, hD2⟩ := va_join (wr := w) (w1 := []) hP hD [] isR hC hR hnR (fun _ _ => List.not_mem_nil) hk1 hFc hP1 hD1
  rw [List.append_nil] at hP2 hD2
  exact kk H1 locs1 hP2 hD2 hS1
theorem kt_si {r : Int32} {av : List Value} (hX : XS sk sv A s s.heap) (S : CallFix p m c cc nL s args Ts own) (hM : CtiX l y ws rm D tys sk sv [] [] As r) (cw : CallB R s args own index y bytes maxL ret ws rm 0 0 n ∧ (Cond.static y).before args s = true)
    (hK : va_K D vwCl tys s) (hP : va_P D vwCl w H) (hD : va_D A w) (hS : va_S A s.heap H locs) (hA : ∀ q : Nat, s.heap.size ≤ q → A q) (isR : List Nat) (hR : isR.map (fun i => w[i]?) = w.map some) (hnR : va_nd isR = true)
    (hn : As.length = n) (hsize : ls.size = nL) (hst : st0 = As.reverse ++ rest) (hW : (rest.map fun v => v.category).sum ≤ 8) (hdg : decode cc pc = .ok (.invokestatic index, 3)) (hf : cells + 0 ≤ R.cells ∧ slots + 0 ≤ R.slots)
    (kk : ∀ (H1 : Heap) (locs1 : List Loc), va_P D vwCl w H1 → va_D A w → va_S A s.heap H1 locs1 → W p l e R s m args below meth c H1 locs1 cells slots Q (F0 m (pc + 3) ls (.int r :: rest))) : W p l e R s m args below meth c H locs cells slots Q (F0 m pc ls st0) := by
  have hC : ([] : List Nat).map (fun i => w[i]?) = ([] : va_W).map some := rfl
  have hFc := va_free (wc := []) hD hS hA [] hC
  refine va_calli (va_runS S (hM H.size) cw ⟨ct_blindX, fun U hU hW => kc_preX hX hK hP hD hS hFc [] hC rfl U hU hW⟩ rfl hn hsize hst (lv_room hW) hdg hf) hS (fun q _ h => hFc q h) hFc (fun r1 u t H1 locs1 ht hvm hw hB hz1 hk1 hS1 => ?_)
  subst hw
  obtain ⟨hP1, hK1, hD1⟩ := hB
  rw [ht] at hP1
  obtain ⟨hP2, hD2⟩ := va_join (wr := w) (w1 := []) hP hD [] isR hC hR hnR (fun _ _ => List.not_mem_nil) hk1 hFc hP1 hD1
  rw [List.append_nil] at hP2 hD2
  exact kk H1 locs1 hP2 hD2 hS1
theorem kt_sv (hX : XS sk sv A s s.heap) (S : CallFix p m c cc nL s args Ts own) (hM : CtvX l y ws rm D tys sk sv [] [] As) (cw : CallB R s args own index y bytes maxL ret ws rm 0 0 n ∧ (Cond.static y).before args s = true)
    (hK : va_K D vwCl tys s) (hP : va_P D vwCl w H) (hD : va_D A w) (hS : va_S A s.heap H locs) (hA : ∀ q : Nat, s.heap.size ≤ q → A q) (isR : List Nat) (hR : isR.map (fun i => w[i]?) = w.map some) (hnR : va_nd isR = true)
    (hn : As.length = n) (hsize : ls.size = nL) (hst : st0 = As.reverse ++ rest) (hW : (rest.map fun v => v.category).sum ≤ 8) (hdg : decode cc pc = .ok (.invokestatic index, 3)) (hf : cells + 0 ≤ R.cells ∧ slots + 0 ≤ R.slots)
    (kk : ∀ (H1 : Heap) (locs1 : List Loc), va_P D vwCl w H1 → va_D A w → va_S A s.heap H1 locs1 → W p l e R s m args below meth c H1 locs1 cells slots Q (F0 m (pc + 3) ls rest)) : W p l e R s m args below meth c H locs cells slots Q (F0 m pc ls st0) := by
  have hC : ([] : List Nat).map (fun i => w[i]?) = ([] : va_W).map some := rfl
  have hFc := va_free (wc := []) hD hS hA [] hC
  refine va_callv (va_runS S (hM H.size) cw ⟨ct_blindX, fun U hU hW => kc_preX hX hK hP hD hS hFc [] hC rfl U hU hW⟩ rfl hn hsize hst (lv_room hW) hdg hf) hS (fun q _ h => hFc q h) hFc (fun u t H1 locs1 ht hvm hw hB hz1 hk1 hS1 => ?_)
  obtain ⟨hP1, hK1, hD1⟩ := hB
  rw [ht] at hP1
  obtain ⟨hP2, hD2⟩ := va_join (wr := w) (w1 := []) hP hD [] isR hC hR hnR (fun _ _ => List.not_mem_nil) hk1 hFc hP1 hD1
  rw [List.append_nil] at hP2 hD2
  exact kk H1 locs1 hP2 hD2 hS1
end KT
def rmJ3_ck : Room := { frames := 0, cells := 0, slots := 0, locals := 0 }
def rmJ0_ck : Room := { frames := 1, cells := 0, slots := 0, locals := 40 }
def rmJ1_ca : Room := { frames := 2, cells := 0, slots := 0, locals := 80 }
def rmJ0_cd : Room := { frames := 0, cells := 0, slots := 0, locals := 0 }
def rmJ0_ln : Room := { frames := 1, cells := 0, slots := 0, locals := 40 }
def rmJ0_ca : Room := { frames := 4, cells := 0, slots := 0, locals := 160 }
def rmX2_isWord : Room := { frames := 8, cells := 0, slots := 0, locals := 300 }
set_option maxHeartbeats 4000000 in
set_option maxRecDepth 100000 in
theorem c_J3_ck (l : Launch) (D : va_G) (tys : List (ClassId × FieldType)) (o : Option Nat) (i n : Int32) (h0 : ¬ i < 0) (h1 : i < n) : Cti l yJ3_checkIndex_8e157 wsJ3_checkIndex_8e157 rmJ3_ck D tys [] [] [.int i, .int n, va_rf o] i := by
  refine ct_int (ty := .int) (cc := cJ3_checkIndex_8e157) (maxL := 3) (by decide) rfl (by cases o <;> exact Nat.le_of_ble_eq_true rfl) ?_
  intro p e s m args below meth c A Q ls hx hb hml hown hts hA hK hP hD hS hl hret
  have hl : lv_has ls 3 [(0, .int i), (1, .int n)] := by cases o <;> exact lv_sub hl [0, 1] rfl
  refine lv_iload_n hx hb dJ3_checkIndex_8e157_0 rfl (lv_at hl 0 rfl) ?_
  refine lv_if_lt (tgt := 9) hx hb dJ3_checkIndex_8e157_1 (by decide) (fun c1 => absurd c1 h0) (fun c1 => ?_)
  refine lv_iload_n hx hb dJ3_checkIndex_8e157_4 rfl (lv_at hl 0 rfl) ?_
  refine lv_iload_n hx hb dJ3_checkIndex_8e157_5 rfl (lv_at hl 1 rfl) ?_
  refine lv_icmp_lt (tgt := 16) hx hb dJ3_checkIndex_8e157_6 (by decide) (fun c2 => ?_) (fun c2 => absurd h1 c2)
  refine lv_iload_n hx hb dJ3_checkIndex_8e157_16 rfl (lv_at hl 0 rfl) ?_
  exact hret _ _ _ _ _ rfl rfl hP hD hS dJ3_checkIndex_8e157_17
set_option maxHeartbeats 4000000 in
set_option maxRecDepth 100000 in
theorem c_J0_ck (l : Launch) (D : va_G) (tys : List (ClassId × FieldType)) (sk sv : Nat → Nat) (i n : Int32) (h0 : ¬ i < 0) (h1 : i < n) : CtvX l yJ0_checkIndex_df160 wsJ0_checkIndex_df160 rmJ0_ck D tys sk sv [] [] [.int i, .int n] := by
  refine ct_voidX (cc := cJ0_checkIndex_df160) (maxL := 2) (by decide) rfl (Nat.le_of_ble_eq_true rfl) ?_
  intro p e s m args below meth c A Q ls hx hb hml hown hts hA hK hP hD hS hl hret hX
  have hl : lv_has ls 2 [(0, .int i), (1, .int n)] := hl
  have kf := hts (.fieldLink RJ0 1053 "jdk/internal/util/Preconditions" "SIOOBE_FORMATTER" "Ljava/util/function/BiFunction;") (by decide +kernel)
  have go : ∀ o : Option Nat, W p l e rmJ0_ck s m args below meth c s.heap [] 0 0 Q (F0 m 5 ls [va_rf o, .int n, .int i]) := by
    intro o
    refine kc_si (As := [.int i, .int n, va_rf o]) (rest := []) (wr := []) (wF := []) ⟨hx, hb, hml, hown, hts⟩ (c_J3_ck l D tys o i n h0 h1) (va_cwS 3 hts gJ0_checkIndex_df160_J3_checkIndex_8e157 rfl rfl rfl (by decide +kernel) ⟨Nat.le_of_ble_eq_true rfl, Nat.le_of_ble_eq_true rfl⟩) hK hP hD hS hA [] [] [] rfl rfl rfl rfl (by decide) rfl rfl rfl hl.1 rfl (Nat.le_of_ble_eq_true rfl) dJ0_checkIndex_df160_5 ⟨Nat.zero_le _, Nat.zero_le _⟩ (fun H locs hP hD hS => ?_)
    refine lv_pop hx hb dJ0_checkIndex_df160_8 rfl ?_
    exact hret _ _ _ _ hP hD hS dJ0_checkIndex_df160_9
  refine lv_iload_n hx hb dJ0_checkIndex_df160_0 rfl (lv_at hl 0 rfl) ?_
  refine lv_iload_n hx hb dJ0_checkIndex_df160_1 rfl (lv_at hl 1 rfl) ?_
  rcases hX.2.2.2.2.2 with hZ | ⟨t, hZ⟩
  · refine va_gets hx hb hZ hS hown kf (fun _ h9 => h9) dJ0_checkIndex_df160_2 ?_
    exact go none
  · refine va_gets hx hb hZ hS hown kf (fun _ h9 => h9) dJ0_checkIndex_df160_2 ?_
    exact go (some t)
theorem wd_chr : ∀ k, k < 3 → ∀ i, i < wdN k → ((wdC k i &&& 255).toUInt32 % 65536).toInt32 = wdC k i ∧ narrow .char (.int (wdC k i)) = .int (wdC k i) := by decide
theorem wd_len : ∀ k, k < 3 → wdN k < 100 := by decide
set_option maxHeartbeats 4000000 in
set_option maxRecDepth 100000 in
theorem c_J1_ca (l : Launch) (D : va_G) (tys : List (ClassId × FieldType)) (sk sv : Nat → Nat) (k i : Nat) (hk : k < 3) (hi : i < wdN k) : CtiX l yJ1_charAt_3b067 wsJ1_charAt_3b067 rmJ1_ca D tys sk sv [] [] [.ref (sv k), .int (nI i)] (wdC k i) := by
  refine ct_intX (ty := .char) (cc := cJ1_charAt_3b067) (maxL := 2) (by decide) rfl (Nat.le_of_ble_eq_true rfl) ?_
  intro p e s m args below meth c A Q ls hx hb hml hown hts hA hK hP hD hS hl hret hX
  have hl : lv_has ls 2 [(0, .ref (sv k)), (1, .int (nI i))] := hl
  have h100 := wd_len k hk
  have hT := (hX.1.1 k hk).2.2.2
  refine lv_iload_n hx hb dJ1_charAt_3b067_0 rfl (lv_at hl 1 rfl) ?_
  refine lv_aload_n hx hb dJ1_charAt_3b067_1 rfl (lv_at hl 0 rfl) ?_
  refine va_tlen hx hb hT hS (v := nI (wdN k)) rfl dJ1_charAt_3b067_2 ?_
  refine kt_sv (As := [.int (nI i), .int (nI (wdN k))]) (rest := []) hX ⟨hx, hb, hml, hown, hts⟩ (c_J0_ck l D tys sk sv (nI i) (nI (wdN k)) (nI_pos (by omega)) (nI_lt hi (by omega))) (va_cwS 2 hts gJ1_charAt_3b067_J0_checkIndex_df160 rfl rfl rfl (by decide +kernel) ⟨Nat.le_of_ble_eq_true rfl, Nat.le_of_ble_eq_true rfl⟩) hK hP hD hS hA [] rfl rfl rfl hl.1 rfl (Nat.le_of_ble_eq_true rfl) dJ1_charAt_3b067_3 ⟨Nat.zero_le _, Nat.zero_le _⟩ (fun H locs hP hD hS => ?_)
  refine lv_aload_n hx hb dJ1_charAt_3b067_6 rfl (lv_at hl 0 rfl) ?_
  refine lv_iload_n hx hb dJ1_charAt_3b067_7 rfl (lv_at hl 1 rfl) ?_
  refine va_tb hx hb hT hS (v := .int (wdC k i)) (show vp_in (nI i) (wdN k) from vp_in_nI hi (by omega)) (by rw [nI_clamp (by omega)]; rfl) dJ1_charAt_3b067_8 ?_
  refine lv_sipush (v := 255) hx hb dJ1_charAt_3b067_9 (by decide) ?_
  refine lv_iand hx hb dJ1_charAt_3b067_12 ?_
  refine lv_i2c hx hb dJ1_charAt_3b067_13 (wd_chr k hk i hi).1 ?_
  exact hret _ _ _ _ _ rfl (wd_chr k hk i hi).2 hP hD hS dJ1_charAt_3b067_14
set_option maxHeartbeats 4000000 in
set_option maxRecDepth 100000 in
theorem c_J0_cd (l : Launch) (D : va_G) (tys : List (ClassId × FieldType)) (sk sv : Nat → Nat) (k : Nat) (hk : k < 3) : CtiX l yJ0_coder_7d493 wsJ0_coder_7d493 rmJ0_cd D tys sk sv [] [] [.ref (sk k)] 0 := by
  refine ct_intX (ty := .byte) (cc := cJ0_coder_7d493) (maxL := 1) (by decide) rfl (Nat.le_of_ble_eq_true rfl) ?_
  intro p e s m args below meth c A Q ls hx hb hml hown hts hA hK hP hD hS hl hret hX
  have hl : lv_has ls 1 [(0, .ref (sk k))] := hl
  refine va_gets hx hb hX.2.2.2.2.1 hS hown (hts (.fieldLink RJ0 38 "java/lang/String" "COMPACT_STRINGS" "Z") (by decide +kernel)) (fun _ h9 => h9) dJ0_coder_7d493_0 ?_
  refine lv_if_eq (tgt := 13) hx hb dJ0_coder_7d493_3 (by decide) (fun c1 => absurd c1 (by decide)) (fun c1 => ?_)
  refine lv_aload_n hx hb dJ0_coder_7d493_6 rfl (lv_at hl 0 rfl) ?_
  refine vk_getf hx hb (hX.1.1 k hk).2.1 hS hown (hts (.fieldLink RJ0 15 "java/lang/String" "coder" "B") (by decide +kernel)) (fun _ h9 => h9) dJ0_coder_7d493_7 ?_
  refine lv_goto (tgt := 14) hx hb dJ0_coder_7d493_10 (by decide) ?_
  exact hret _ _ _ _ _ rfl rfl hP hD hS dJ0_coder_7d493_14
set_option maxHeartbeats 4000000 in
set_option maxRecDepth 100000 in
theorem c_J0_lat (l : Launch) (D : va_G) (tys : List (ClassId × FieldType)) (sk sv : Nat → Nat) (k : Nat) (hk : k < 3) : CtiX l yJ0_isLatin1_aae02 wsJ0_isLatin1_aae02 rmJ0_cd D tys sk sv [] [] [.ref (sk k)] 1 := by
  refine ct_intX (ty := .boolean) (cc := cJ0_isLatin1_aae02) (maxL := 1) (by decide) rfl (Nat.le_of_ble_eq_true rfl) ?_
  intro p e s m args below meth c A Q ls hx hb hml hown hts hA hK hP hD hS hl hret hX
  have hl : lv_has ls 1 [(0, .ref (sk k))] := hl
  refine va_gets hx hb hX.2.2.2.2.1 hS hown (hts (.fieldLink RJ0 38 "java/lang/String" "COMPACT_STRINGS" "Z") (by decide +kernel)) (fun _ h9 => h9) dJ0_isLatin1_aae02_0 ?_
  refine lv_if_eq (tgt := 17) hx hb dJ0_isLatin1_aae02_3 (by decide) (fun c1 => absurd c1 (by decide)) (fun c1 => ?_)
  refine lv_aload_n hx hb dJ0_isLatin1_aae02_6 rfl (lv_at hl 0 rfl) ?_
  refine vk_getf hx hb (hX.1.1 k hk).2.1 hS hown (hts (.fieldLink RJ0 15 "java/lang/String" "coder" "B") (by decide +kernel)) (fun _ h9 => h9) dJ0_isLatin1_aae02_7 ?_
  refine lv_if_ne (tgt := 17) hx hb dJ0_isLatin1_aae02_10 (by decide) (fun c1 => absurd rfl c1) (fun c1 => ?_)
  refine lv_iconst (v := 1) hx hb dJ0_isLatin1_aae02_13 (by decide) ?_
  refine lv_goto (tgt := 18) hx hb dJ0_isLatin1_aae02_14 (by decide) ?_
  exact hret _ _ _ _ _ rfl rfl hP hD hS dJ0_isLatin1_aae02_18
set_option maxHeartbeats 4000000 in
set_option maxRecDepth 100000 in
theorem c_J0_ln (l : Launch) (D : va_G) (tys : List (ClassId × FieldType)) (sk sv : Nat → Nat) (k : Nat) (hk : k < 3) : CtiX l yJ0_length_8abf5 wsJ0_length_8abf5 rmJ0_ln D tys sk sv [] [] [.ref (sk k)] (nI (wdN k)) := by
  refine ct_intX (ty := .int) (cc := cJ0_length_8abf5) (maxL := 1) (by decide) rfl (Nat.le_of_ble_eq_true rfl) ?_
  intro p e s m args below meth c A Q ls hx hb hml hown hts hA hK hP hD hS hl hret hX
  have hl : lv_has ls 1 [(0, .ref (sk k))] := hl
  refine lv_aload_n hx hb dJ0_length_8abf5_0 rfl (lv_at hl 0 rfl) ?_
  refine vk_getf hx hb (hX.1.1 k hk).2.2.1 hS hown (hts (.fieldLink RJ0 9 "java/lang/String" "value" "[B") (by decide +kernel)) (fun _ h9 => h9) dJ0_length_8abf5_1 ?_
  refine va_tlen hx hb (hX.1.1 k hk).2.2.2 hS (v := nI (wdN k)) rfl dJ0_length_8abf5_4 ?_
  refine lv_aload_n hx hb dJ0_length_8abf5_5 rfl (lv_at hl 0 rfl) ?_
  refine kt_vi (As := []) (rest := [.int (nI (wdN k))]) hX hk ⟨hx, hb, hml, hown, hts⟩ (c_J0_cd l D tys sk sv k hk) (cwV 0 hts gJ0_length_8abf5_J0_coder_7d493 rfl rfl rfl (by decide +kernel) ⟨Nat.le_of_ble_eq_true rfl, Nat.le_of_ble_eq_true rfl⟩) hK hP hD hS hA [] rfl rfl rfl hl.1 rfl (Nat.le_of_ble_eq_true rfl) dJ0_length_8abf5_6 ⟨Nat.zero_le _, Nat.zero_le _⟩ (fun H locs hP hD hS => ?_)
  refine lv_ishr hx hb dJ0_length_8abf5_9 ?_
  exact hret _ _ _ _ _ (sb_shr0 _) rfl hP hD hS dJ0_length_8abf5_10
set_option maxHeartbeats 4000000 in
set_option maxRecDepth 100000 in
theorem c_J0_ca (l : Launch) (D : va_G) (tys : List (ClassId × FieldType)) (sk sv : Nat → Nat) (k i : Nat) (hk : k < 3) (hi : i < wdN k) : CtiX l yJ0_charAt_5068e wsJ0_charAt_5068e rmJ0_ca D tys sk sv [] [] [.ref (sk k), .int (nI i)] (wdC k i) := by
  refine ct_intX (ty := .char) (cc := cJ0_charAt_5068e) (maxL := 2) (by decide) rfl (Nat.le_of_ble_eq_true rfl) ?_
  intro p e s m args below meth c A Q ls hx hb hml hown hts hA hK hP hD hS hl hret hX
  have hl : lv_has ls 2 [(0, .ref (sk k)), (1, .int (nI i))] := hl
  refine lv_aload_n hx hb dJ0_charAt_5068e_0 rfl (lv_at hl 0 rfl) ?_
  refine kt_vi (As := []) (rest := []) hX hk ⟨hx, hb, hml, hown, hts⟩ (c_J0_lat l D tys sk sv k hk) (cwV 0 hts gJ0_charAt_5068e_J0_isLatin1_aae02 rfl rfl rfl (by decide +kernel) ⟨Nat.le_of_ble_eq_true rfl, Nat.le_of_ble_eq_true rfl⟩) hK hP hD hS hA [] rfl rfl rfl hl.1 rfl (Nat.le_of_ble_eq_true rfl) dJ0_charAt_5068e_1 ⟨Nat.zero_le _, Nat.zero_le _⟩ (fun H locs hP hD hS => ?_)
  refine lv_if_eq (tgt := 16) hx hb dJ0_charAt_5068e_4 (by decide) (fun c1 => absurd c1 (by decide)) (fun c1 => ?_)
  refine lv_aload_n hx hb dJ0_charAt_5068e_7 rfl (lv_at hl 0 rfl) ?_
  refine vk_getf hx hb (hX.1.1 k hk).2.2.1 hS hown (hts (.fieldLink RJ0 9 "java/lang/String" "value" "[B") (by decide +kernel)) (fun _ h9 => h9) dJ0_charAt_5068e_8 ?_
  refine lv_iload_n hx hb dJ0_charAt_5068e_11 rfl (lv_at hl 1 rfl) ?_
  refine kt_si (av := []) (As := [.ref (sv k), .int (nI i)]) (rest := []) hX ⟨hx, hb, hml, hown, hts⟩ (c_J1_ca l D tys sk sv k i hk hi) (va_cwS 2 hts gJ0_charAt_5068e_J1_charAt_3b067 rfl rfl rfl (by decide +kernel) ⟨Nat.le_of_ble_eq_true rfl, Nat.le_of_ble_eq_true rfl⟩) hK hP hD hS hA [] rfl rfl rfl hl.1 rfl (Nat.le_of_ble_eq_true rfl) dJ0_charAt_5068e_12 ⟨Nat.zero_le _, Nat.zero_le _⟩ (fun H locs hP hD hS => ?_)
  exact hret _ _ _ _ _ rfl (wd_chr k hk i hi).2 hP hD hS dJ0_charAt_5068e_15
set_option maxHeartbeats 4000000 in
set_option maxRecDepth 100000 in
theorem c_X2_isWord (l : Launch) (dC : Nat → ClassId) (dI : Nat → Nat → Nat) (cI cJ cZ cA : ClassId) (sk sv : Nat → Nat) (aR aR_tape aR_rounds : Nat) (R_length R_roundsRead R_token R_start R_behind R_number : Int32) (R_tape : Nat → Int32) (k : Nat) (rr : Int32) (h : fX2_isWord R_start R_behind R_tape k = some rr) : CtiX l yX2_isWord wsX2_isWord rmX2_isWord (dC, dI) (tyL cI cJ cZ cA) sk sv [(aR, .inr (2, [.ref aR_tape, .ref aR_rounds, .int R_length, .int R_roundsRead, .int R_token, .int R_start, .int R_behind, .int R_number])), (aR_tape, .inl (cI, 300, .inl R_tape))] [(aR, .inr (2, [.ref aR_tape, .ref aR_rounds, .int R_length, .int R_roundsRead, .int R_token, .int R_start, .int R_behind, .int R_number])), (aR_tape, .inl (cI, 300, .inl R_tape))] [.ref aR, .ref (sk k)] rr := by
  unfold fX2_isWord at h
  by_cases hk : k < 3
  case neg => rw [if_neg hk] at h; cases h
  rw [if_pos hk] at h
  have h100 := wd_len k hk
  refine ct_intX (ty := .boolean) (cc := cX2_isWord) (maxL := 3) (by decide) rfl (Nat.le_of_ble_eq_true rfl) ?_
  intro p e s m args below meth c A Q ls hx hb hml hown hts hA hK hP hD hS hl hret hX
  have hl : lv_has ls 3 [(0, .ref aR), (1, .ref (sk k))] := hl
  have hi2 : ∀ w ∈ u_ws RX2 TX2 8, w ∈ wsX2_isWord := fun w hw => List.mem_cons_of_mem _ (List.mem_append_right _ hw)
  have k0 := hts (.fieldLink RX2 36 "BeepNet$Reader" "behind" "I") (by decide +kernel)
  have k1 := hts (.fieldLink RX2 33 "BeepNet$Reader" "start" "I") (by decide +kernel)
  have k2 := hts (.fieldLink RX2 9 "BeepNet$Reader" "tape" "[I") (by decide +kernel)
  have hC : ∀ (n i : Nat) (H : Heap) (locs : List Loc) (ls : Array Slot), i ≤ wdN k → fX2_isWord_c R_start R_tape k n i = some rr → va_P (dC, dI) vwCl [(aR, .inr (2, [.ref aR_tape, .ref aR_rounds, .int R_length, .int R_roundsRead, .int R_token, .int R_start, .int R_behind, .int R_number])), (aR_tape, .inl (cI, 300, .inl R_tape))] H → va_D A [(aR, .inr (2, [.ref aR_tape, .ref aR_rounds, .int R_length, .int R_roundsRead, .int R_token, .int R_start, .int R_behind, .int R_number])), (aR_tape, .inl (cI, 300, .inl R_tape))] → va_S A s.heap H locs → lv_has ls 3 [(0, .ref aR), (1, .ref (sk k)), (2, .int (nI i))] → W p l e rmX2_isWord s m args below meth c H locs 0 0 Q (F0 m 20 ls []) := by
    intro n
    induction n with
    | zero => intro i H locs ls hi h; rw [fX2_isWord_c] at h; cases h
    | succ n ih =>
      intro i H locs ls hi h hP hD hS hl
      rw [fX2_isWord_c] at h
      refine lv_iload_n hx hb dX2_isWord_20 rfl (lv_at hl 2 rfl) ?_
      refine lv_aload_n hx hb dX2_isWord_21 rfl (lv_at hl 1 rfl) ?_
      refine kt_vi (As := []) (rest := [.int (nI i)]) hX hk ⟨hx, hb, hml, hown, hts⟩ (c_J0_ln l (dC, dI) (tyL cI cJ cZ cA) sk sv k hk) (cwV 0 hts gX2_isWord_J0_length_8abf5 rfl rfl rfl (by decide +kernel) ⟨Nat.le_of_ble_eq_true rfl, Nat.le_of_ble_eq_true rfl⟩) hK hP hD hS hA [0, 1] rfl rfl rfl hl.1 rfl (Nat.le_of_ble_eq_true rfl) dX2_isWord_22 ⟨Nat.zero_le _, Nat.zero_le _⟩ (fun H locs hP hD hS => ?_)
      refine lv_icmp_ge (tgt := 55) hx hb dX2_isWord_25 (by decide) (fun c1 => ?_) (fun c1 => ?_)
      · have c2 : wdN k ≤ i := (nI_leI (by omega) (by omega)).mp c1
        have h := ift c2 h
        refine lv_iconst (v := 1) hx hb dX2_isWord_55 (by decide) ?_
        obtain rfl := sj1 h
        exact hret _ _ _ _ _ rfl rfl hP hD hS dX2_isWord_56
      · have c2 : ¬ wdN k ≤ i := fun q => c1 (nI_le q (by omega))
        have h := ifn c2 h
        refine lv_aload_n hx hb dX2_isWord_28 rfl (lv_at hl 0 rfl) ?_
        refine ka_get (v := .ref aR_tape) (C := RX2) (T := TX2) (Nf := 8) (ref := "BeepNet$Reader") hx hb hts hi2 hown hK hP 0 rfl rfl 0 (by decide) k2 rfl rfl dX2_isWord_29 ?_
        refine lv_aload_n hx hb dX2_isWord_32 rfl (lv_at hl 0 rfl) ?_
        refine ka_get (v := .int R_start) (C := RX2) (T := TX2) (Nf := 8) (ref := "BeepNet$Reader") hx hb hts hi2 hown hK hP 0 rfl rfl 5 (by decide) k1 rfl rfl dX2_isWord_33 ?_
        refine lv_iload_n hx hb dX2_isWord_36 rfl (lv_at hl 2 rfl) ?_
        refine lv_iadd hx hb dX2_isWord_37 ?_
        obtain ⟨v, ev, hn, h⟩ := ldx_s h
        refine ka_ild hx hb hK hP 1 0 ev rfl rfl hn dX2_isWord_38 ?_
        refine lv_aload_n hx hb dX2_isWord_39 rfl (lv_at hl 1 rfl) ?_
        refine lv_iload_n hx hb dX2_isWord_40 rfl (lv_at hl 2 rfl) ?_
        refine kt_vi (As := [.int (nI i)]) (rest := [.int v]) hX hk ⟨hx, hb, hml, hown, hts⟩ (c_J0_ca l (dC, dI) (tyL cI cJ cZ cA) sk sv k i hk (by omega)) (cwV 1 hts gX2_isWord_J0_charAt_5068e rfl rfl rfl (by decide +kernel) ⟨Nat.le_of_ble_eq_true rfl, Nat.le_of_ble_eq_true rfl⟩) hK hP hD hS hA [0, 1] rfl rfl rfl hl.1 rfl (Nat.le_of_ble_eq_true rfl) dX2_isWord_41 ⟨Nat.zero_le _, Nat.zero_le _⟩ (fun H locs hP hD hS => ?_)
        refine lv_icmp_eq (tgt := 49) hx hb dX2_isWord_44 (by decide) (fun c3 => ?_) (fun c3 => ?_)
        · have h := ift c3 h
          refine lv_iinc (v := nI (i + 1)) (lv' := [(2, .int (nI (i + 1))), (0, .ref aR), (1, .ref (sk k))]) hx hb dX2_isWord_49 hl (k := 2) rfl (nI_1 i) (by decide) rfl (fun ls hl => ?_)
          refine lv_goto (tgt := 20) hx hb dX2_isWord_52 (by decide) ?_
          exact ih (i + 1) _ _ _ (by omega) h hP hD hS (lv_sub hl [1, 2, 0] rfl)
        · have h := ifn c3 h
          refine lv_iconst (v := 0) hx hb dX2_isWord_47 (by decide) ?_
          obtain rfl := sj1 h
          exact hret _ _ _ _ _ rfl rfl hP hD hS dX2_isWord_48
  refine lv_aload_n hx hb dX2_isWord_0 rfl (lv_at hl 0 rfl) ?_
  refine ka_get (v := .int R_behind) (C := RX2) (T := TX2) (Nf := 8) (ref := "BeepNet$Reader") hx hb hts hi2 hown hK hP 0 rfl rfl 6 (by decide) k0 rfl rfl dX2_isWord_1 ?_
  refine lv_aload_n hx hb dX2_isWord_4 rfl (lv_at hl 0 rfl) ?_
  refine ka_get (v := .int R_start) (C := RX2) (T := TX2) (Nf := 8) (ref := "BeepNet$Reader") hx hb hts hi2 hown hK hP 0 rfl rfl 5 (by decide) k1 rfl rfl dX2_isWord_5 ?_
  refine lv_isub hx hb dX2_isWord_8 ?_
  refine lv_aload_n hx hb dX2_isWord_9 rfl (lv_at hl 1 rfl) ?_
  refine kt_vi (As := []) (rest := [.int (R_behind - R_start)]) hX hk ⟨hx, hb, hml, hown, hts⟩ (c_J0_ln l (dC, dI) (tyL cI cJ cZ cA) sk sv k hk) (cwV 0 hts gX2_isWord_J0_length_8abf5 rfl rfl rfl (by decide +kernel) ⟨Nat.le_of_ble_eq_true rfl, Nat.le_of_ble_eq_true rfl⟩) hK hP hD hS hA [0, 1] rfl rfl rfl hl.1 rfl (Nat.le_of_ble_eq_true rfl) dX2_isWord_10 ⟨Nat.zero_le _, Nat.zero_le _⟩ (fun H locs hP hD hS => ?_)
  refine lv_icmp_eq (tgt := 18) hx hb dX2_isWord_13 (by decide) (fun c1 => ?_) (fun c1 => ?_)
  · have h := ift c1 h
    refine lv_iconst (v := nI 0) hx hb dX2_isWord_18 (by decide) ?_
    refine lv_istore_n (lv' := [(2, .int (nI 0)), (0, .ref aR), (1, .ref (sk k))]) hx hb dX2_isWord_19 rfl hl (by decide) rfl (fun ls hl => ?_)
    exact hC FU 0 _ _ _ (Nat.zero_le _) h hP hD hS (lv_sub hl [1, 2, 0] rfl)
  · have h := ifn c1 h
    refine lv_iconst (v := 0) hx hb dX2_isWord_16 (by decide) ?_
    obtain rfl := sj1 h
    exact hret _ _ _ _ _ rfl rfl hP hD hS dX2_isWord_17
