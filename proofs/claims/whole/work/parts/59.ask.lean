/-! steps: ask, picks -/
theorem tr_step {K M : Int32} {F G : Nat → Int32} (h : iTr K F M G) (b : Int32) : ∃ (K1 : Int32) (F1 : Nat → Int32) (M1 : Int32) (G1 : Nat → Int32), fX0_leave K F b = some (K1, F1) ∧ fX7_began M G b = some (M1, G1) ∧ iTr K1 F1 M1 G1 := by
  obtain ⟨k, hk, rfl, rfl, hh⟩ := h
  unfold fX0_leave fX7_began
  by_cases q : k = 16
  · subst q
    rw [if_pos (show (16 : Int32) ≤ nI 16 by decide), if_pos (show (16 : Int32) ≤ nI 16 by decide)]
    exact ⟨_, _, _, _, rfl, rfl, 16, hk, rfl, rfl, hh⟩
  · rw [if_neg (show ¬ (16 : Int32) ≤ nI k from nI_ge (show k < 16 by omega) (by decide)), if_neg (show ¬ (16 : Int32) ≤ nI k from nI_ge (show k < 16 by omega) (by decide)), sti_n (by omega) (by decide), sti_n (by omega) (by decide), nI_1]
    refine ⟨_, _, _, _, rfl, rfl, k + 1, by omega, rfl, rfl, fun i hi => ?_⟩
    by_cases r : i = k
    · subst r; rw [upd_eq, upd_eq]
    · rw [upd_ne _ _ r, upd_ne _ _ r]; exact hh i (by omega)
theorem linked_step {n : Nat} {nb : Nat → Nat} (h : iN n nb) {F : Nat → Int32} (hF : ∀ i, i < 8 → F i = nI (nb i)) {a : Nat} (ha : a < n) {K K1 K2 : Int32} {T T1 T2 : Nat → Int32} (l1 : fX0_leave K T 11 = some (K1, T1)) (l2 : fX0_leave K1 T1 10 = some (K2, T2)) : fX0_sizeOfLinked (nI n) F K T (nI a) = some (nI (cnt (nb a) 8) + nI (wdt n nb (2 ^ a) (n - 1)), K2, T2) := by
  have hn := h.1
  unfold fX0_sizeOfLinked fX0_sizeLent
  rw [l1, bd2_i, l2, bd2_i, deg_of hF (row_lt h) (by omega), bd1_i, bd3_i, xwid_of h hF ha, bd1_i]
theorem sized_step {n : Nat} {nb : Nat → Nat} (h : iN n nb) {F G : Nat → Int32} (hF : ∀ i, i < 8 → F i = nI (nb i)) (hG : ∀ i, i < 8 → G i = nI (nb i)) {a : Nat} (ha : a < n) {K M : Int32} {T U : Nat → Int32} (ht : iTr K T M U) {dep : Int32} (hd : dep ≤ 3) (hd1 : dep + 1 ≤ 3) : ∃ (r : Int32) (K1 : Int32) (T1 : Nat → Int32) (M1 : Int32) (U1 : Nat → Int32), fX0_sizeOf (nI n) F K T (nI a) dep = some (r, K1, T1) ∧ fX7_sized (nI n) M G U (nI a) = some (r, M1, U1) ∧ iTr K1 T1 M1 U1 := by
  have hn := h.1
  have e1 := xkind_of h hF ha
  have e2 := mkind_of h hG ha
  have hsz := size_of _ (row_lt h a (by omega))
  have hGa := hG a (by omega)
  unfold fX0_sizeOf fX7_sized
  rw [if_pos hd, e1, bd1_i, e2, bd1_i]
  rcases knd_in n nb a with hk | hk | hk | hk
  · obtain ⟨K1, T1, M1, U1, l1, b1, t1⟩ := tr_step ht 11
    obtain ⟨K2, T2, M2, U2, l2, b2, t2⟩ := tr_step t1 10
    rw [hk, if_pos rfl, if_neg (by decide)]
    refine ⟨nI (cnt (nb a) 8) + nI (wdt n nb (2 ^ a) (n - 1)), K2, T2, M2, U2, ?_, ?_, t2⟩
    · rw [linked_step h hF ha l1 l2, bd3_i]
    · unfold fX7_sized_c17 fX7_sized_c28 fX7_sized_c39 fX7_sized_c68
      rw [if_neg (by decide), if_neg (by decide), b1, bd2_i, b2, bd2_i, ldx_n (by omega) (by decide), hGa, hsz, bd1_i, if_neg (by decide), mwid_of h hG ha, bd1_i, if_neg (by decide), if_neg (by decide)]
  · obtain ⟨K0, T0, M0, U0, l0, b0, t0⟩ := tr_step ht 12
    obtain ⟨K1, T1, M1, U1, l1, b1, t1⟩ := tr_step t0 11
    obtain ⟨K2, T2, M2, U2, l2, b2, t2⟩ := tr_step t1 10
    rw [hk, if_neg (by decide), if_pos rfl, if_pos rfl]
    refine ⟨(2 : Int32) * (nI (cnt (nb a) 8) + nI (wdt n nb (2 ^ a) (n - 1))), K2, T2, M2, U2, ?_, ?_, t2⟩
    · unfold fX0_sizeOfLeaf
      rw [l0, bd2_i, linked_step h hF ha l1 l2, bd3_i, bd3_i]
    · unfold fX7_sized_c17 fX7_sized_c28 fX7_sized_c39 fX7_sized_c68
      rw [b0, bd2_i, if_neg (by decide), if_neg (by decide), b1, bd2_i, b2, bd2_i, ldx_n (by omega) (by decide), hGa, hsz, bd1_i, if_neg (by decide), mwid_of h hG ha, bd1_i, if_neg (by decide), if_pos rfl]
  · obtain ⟨K0, T0, M0, U0, l0, b0, t0⟩ := tr_step ht 13
    obtain ⟨K1, T1, M1, U1, l1, b1, t1⟩ := tr_step t0 11
    obtain ⟨K2, T2, M2, U2, l2, b2, t2⟩ := tr_step t1 10
    obtain ⟨K3, T3, M3, U3, l3, b3, t3⟩ := tr_step t2 21
    obtain ⟨K4, T4, M4, U4, l4, b4, t4⟩ := tr_step t3 20
    rw [hk, if_neg (by decide), if_neg (by decide), if_pos rfl, if_neg (by decide)]
    refine ⟨(nI (cnt (nb a) 8) + nI (wdt n nb (2 ^ a) (n - 1))) + (nI a + 100), K4, T4, M4, U4, ?_, ?_, t4⟩
    · unfold fX0_sizeOfHub fX0_markOfA fX0_markOfHub fX0_markLent
      rw [l0, bd2_i, linked_step h hF ha l1 l2, bd3_i, if_pos hd1, e1, bd1_i, hk, if_pos rfl, l3, bd2_i, l4, bd2_i, bd3_i, bd3_i, bd3_i, bd3_i]
    · unfold fX7_sized_c17 fX7_sized_c28 fX7_sized_c39 fX7_sized_c68
      rw [if_pos rfl, b0, bd2_i, if_neg (by decide), b1, bd2_i, b2, bd2_i, ldx_n (by omega) (by decide), hGa, hsz, bd1_i, if_neg (by decide), mwid_of h hG ha, bd1_i, if_pos rfl, b3, bd2_i, b4, bd2_i, Int32.add_assoc (nI (cnt (nb a) 8) + nI (wdt n nb (2 ^ a) (n - 1)))]
  · obtain ⟨K2, T2, M2, U2, l2, b2, t2⟩ := tr_step ht 10
    rw [hk, if_neg (by decide), if_neg (by decide), if_neg (by decide), if_neg (by decide)]
    refine ⟨nI (cnt (nb a) 8), K2, T2, M2, U2, ?_, ?_, t2⟩
    · unfold fX0_sizeLent
      rw [l2, bd2_i, deg_of hF (row_lt h) (by omega), bd1_i, bd3_i]
    · unfold fX7_sized_c17 fX7_sized_c28 fX7_sized_c39 fX7_sized_c68
      rw [if_neg (by decide), if_pos rfl, b2, bd2_i, ldx_n (by omega) (by decide), hGa, hsz, bd1_i, if_pos rfl, if_neg (by decide), if_neg (by decide), Int32.add_zero]
theorem marked_step {n : Nat} {nb : Nat → Nat} (h : iN n nb) {F G : Nat → Int32} (hF : ∀ i, i < 8 → F i = nI (nb i)) (hG : ∀ i, i < 8 → G i = nI (nb i)) {a : Nat} (ha : a < n) {K M : Int32} {T U : Nat → Int32} (ht : iTr K T M U) : ∃ (r : Int32) (K1 : Int32) (T1 : Nat → Int32) (M1 : Int32) (U1 : Nat → Int32), fX0_markOf (nI n) F K T (nI a) 0 = some (r, K1, T1) ∧ fX7_marked (nI n) M G U (nI a) = some (r, M1, U1) ∧ iTr K1 T1 M1 U1 := by
  have hn := h.1
  have e1 := xkind_of h hF ha
  have e2 := mkind_of h hG ha
  unfold fX0_markOf fX7_marked
  rw [if_pos (by decide), e1, bd1_i, e2, bd1_i]
  have hpl : (knd n nb a = 1 ∨ knd n nb a = 2) → ∃ (r : Int32) (K1 : Int32) (T1 : Nat → Int32) (M1 : Int32) (U1 : Nat → Int32), (if knd n nb a = 3 then bd3 (fX0_markOfHub K T (nI a)) (fun r5 K_length_6 K_begun_7 => some (r5, K_length_6, K_begun_7)) else (if knd n nb a = 4 then bd3 (fX0_markOfLone (nI n) F K T (nI a) 0) (fun r10 K_length_11 K_begun_12 => some (r10, K_length_11, K_begun_12)) else bd3 (fX0_markLent K T (nI a)) (fun r14 K_length_15 K_begun_16 => some (r14, K_length_15, K_begun_16)))) = some (r, K1, T1) ∧ (if knd n nb a = 3 then bd2 (fX7_began M U 21) (fun M_traced_4 M_trace_5 => fX7_marked_c17 (nI n) G M_traced_4 M_trace_5 (nI a) (knd n nb a)) else fX7_marked_c17 (nI n) G M U (nI a) (knd n nb a)) = some (r, M1, U1) ∧ iTr K1 T1 M1 U1 := by
    intro hk
    obtain ⟨K1, T1, M1, U1, l1, b1, t1⟩ := tr_step ht 20
    have h3 : ¬ knd n nb a = 3 := by rcases hk with hk | hk <;> rw [hk] <;> decide
    have h4 : ¬ knd n nb a = 4 := by rcases hk with hk | hk <;> rw [hk] <;> decide
    refine ⟨nI a, K1, T1, M1, U1, ?_, ?_, t1⟩
    · unfold fX0_markLent
      rw [if_neg h3, if_neg h4, l1, bd2_i, bd3_i]
    · unfold fX7_marked_c17 fX7_marked_c28
      rw [if_neg h3, if_neg h4, b1, bd2_i, if_neg h3, if_neg h4, Int32.add_zero]
  rcases knd_in n nb a with hk | hk | hk | hk
  · exact hpl (Or.inl hk)
  · exact hpl (Or.inr hk)
  · obtain ⟨K3, T3, M3, U3, l3, b3, t3⟩ := tr_step ht 21
    obtain ⟨K4, T4, M4, U4, l4, b4, t4⟩ := tr_step t3 20
    rw [hk, if_pos rfl, if_pos rfl]
    refine ⟨nI a + 100, K4, T4, M4, U4, ?_, ?_, t4⟩
    · unfold fX0_markOfHub fX0_markLent
      rw [l3, bd2_i, l4, bd2_i, bd3_i, bd3_i]
    · unfold fX7_marked_c17 fX7_marked_c28
      rw [b3, bd2_i, if_neg (by decide), b4, bd2_i, if_pos rfl]
  · obtain ⟨K3, T3, M3, U3, l3, b3, t3⟩ := tr_step ht 22
    obtain ⟨K4, T4, M4, U4, l4, b4, t4⟩ := tr_step t3 20
    obtain ⟨r, K5, T5, M5, U5, s1, s2, t5⟩ := sized_step h hF hG ha t4 (dep := 0 + 1) (by decide) (by decide)
    rw [hk, if_neg (by decide), if_pos rfl, if_neg (by decide)]
    refine ⟨nI a + r, K5, T5, M5, U5, ?_, ?_, t5⟩
    · unfold fX0_markOfLone fX0_markLent
      rw [l3, bd2_i, l4, bd2_i, bd3_i, s1, bd3_i, bd3_i]
    · unfold fX7_marked_c17 fX7_marked_c28
      rw [if_pos rfl, b3, bd2_i, b4, bd2_i, if_neg (by decide), if_pos rfl, s2, bd3_i]
theorem st_ask {B_latestFinding : Int32} {B_latestFault : Int32} {S_lanes : Nat → Int32} {S_sizes : Nat → Int32} {S_rows : Nat → Nat → Int32} {N_posts : Int32} {N_neighbours : Nat → Int32} {R_length : Int32} {R_tape : Nat → Int32} {T_size : Int32} {T_rounds : Nat → Int32} {K_length : Int32} {K_begun : Nat → Int32} {M_status : Int32} {M_posts : Int32} {M_rounds : Int32} {M_taped : Int32} {M_latest : Int32} {M_traced : Int32} {M_lane : Nat → Int32} {M_many : Nat → Int32} {M_item : Nat → Int32} {M_beside : Nat → Int32} {M_round : Nat → Int32} {M_tape : Nat → Int32} {M_trace : Nat → Int32} (hI : Inv B_latestFinding B_latestFault S_lanes S_sizes S_rows N_posts N_neighbours R_length R_tape T_size T_rounds K_length K_begun M_status M_posts M_rounds M_taped M_latest M_traced M_lane M_many M_item M_beside M_round M_tape M_trace) (p0 : Int32) (p1 : Int32) (M_thrown : Int32) : ∃ (rr : Int32) (K_length_z : Int32) (K_begun_z : Nat → Int32) (M_thrown_z : Int32) (M_traced_z : Int32) (M_trace_z : Nat → Int32), fX6_ask N_posts N_neighbours K_length K_begun p0 p1 = some (rr, K_length_z, K_begun_z) ∧ fX7_ask M_thrown M_posts M_traced M_beside M_trace p0 p1 = some (rr, M_thrown_z, M_traced_z, M_trace_z) ∧ Inv B_latestFinding B_latestFault S_lanes S_sizes S_rows N_posts N_neighbours R_length R_tape T_size T_rounds K_length_z K_begun_z M_status M_posts M_rounds M_taped M_latest M_traced_z M_lane M_many M_item M_beside M_round M_tape M_trace_z := by
  obtain ⟨n, nb, ⟨hN, eN, eM, h4⟩, hS, hT, hTT, hTr, e1, e2⟩ := id hI
  have hn := hN.1
  have hFX : ∀ i, i < 8 → N_neighbours i = nI (nb i) := fun i hi => (h4 i hi).1
  have hFM : ∀ i, i < 8 → M_beside i = nI (nb i) := fun i hi => (h4 i hi).2
  rcases post_cases p0 hn with ⟨a, ha, rfl, ha1, ha2⟩ | ⟨ha1, ha2⟩
  case inr =>
    refine ⟨-1000001, K_length, K_begun, 0, M_traced, M_trace, ?_, ?_, hI⟩
    · unfold fX6_ask
      rw [eN, ha1, bd1_i, if_pos rfl]
    · unfold fX7_ask
      rw [eM, ha2, bd1_i, if_pos rfl]
  rcases rng_cases p1 2 (by decide) with ⟨t, ht, rfl⟩ | h
  case inr =>
    refine ⟨-1000001, K_length, K_begun, 0, M_traced, M_trace, ?_, ?_, hI⟩
    · unfold fX6_ask
      rw [eN, ha1, bd1_i, if_neg (by decide)]
      by_cases h0 : p1 < 0
      · rw [if_pos h0]
      · have h5 := h.resolve_left h0
        rw [if_neg h0, if_neg]
        intro q
        rw [i32_le, show (1 : Int32).toInt = 1 from rfl] at q
        rw [i32_le, nI_toInt (by decide)] at h5
        omega
    · unfold fX7_ask
      have hin : fX7_in p1.toInt64 0 1 = some 0 := in_k_f (k := 2) h (by decide)
      rw [eM, ha2, bd1_i, if_neg (by decide), hin, bd1_i, if_pos rfl]
  have h0 : iTr 0 K_begun 0 M_trace := ⟨0, by decide, rfl, rfl, fun i hi => absurd hi (Nat.not_lt_zero i)⟩
  have hin : fX7_in (nI t).toInt64 0 1 = some 1 := by
    rw [z64, show (1 : Int64) = (nI 1).toInt64 from rfl, in_t (nI_pos (by omega)) (nI_nlt (by omega) (by omega))]
  have hX0 : fX6_ask N_posts N_neighbours K_length K_begun (nI a) (nI t) = bd3 (fX0_answer (nI n) N_neighbours K_length K_begun (nI a) (nI t)) (fun r6 K_length_7 K_begun_8 => some (r6, K_length_7, K_begun_8)) := by
    unfold fX6_ask
    rw [eN, ha1, bd1_i, if_neg (by decide), if_neg (nI_pos (by omega)), if_pos (show nI t ≤ (1 : Int32) from nI_le (show t ≤ 1 by omega) (by decide))]
  rcases (show t = 0 ∨ t = 1 by omega) with rfl | rfl
  · obtain ⟨r, K1, T1, M1, U1, s1, s2, t1⟩ := sized_step hN hFX hFM ha h0 (dep := 0) (by decide) (by decide)
    refine ⟨r, K1, T1, 0, M1, U1, ?_, ?_, ⟨n, nb, ⟨hN, eN, eM, h4⟩, hS, hT, hTT, t1, e1, e2⟩⟩
    · rw [hX0]
      unfold fX0_answer
      rw [if_pos nI_0, s1, bd3_i, bd3_i]
    · unfold fX7_ask
      rw [eM, ha2, bd1_i, if_neg (by decide), hin, bd1_i, if_neg (by decide), if_pos nI_0, s2, bd3_i]
  · obtain ⟨r, K1, T1, M1, U1, s1, s2, t1⟩ := marked_step hN hFX hFM ha h0
    refine ⟨r, K1, T1, 0, M1, U1, ?_, ?_, ⟨n, nb, ⟨hN, eN, eM, h4⟩, hS, hT, hTT, t1, e1, e2⟩⟩
    · rw [hX0]
      unfold fX0_answer
      rw [if_neg (by decide), s1, bd3_i, bd3_i]
    · unfold fX7_ask
      rw [eM, ha2, bd1_i, if_neg (by decide), hin, bd1_i, if_neg (by decide), if_neg (by decide), s2, bd3_i]
/-! picks -/
theorem and_set (x : Int32) {t : Nat} (ht : t < 256) : ∃ v, v < 256 ∧ x &&& nI t = nI v := by
  obtain ⟨k, hk, rfl⟩ := x_of x
  exact ⟨k &&& t, Nat.lt_of_le_of_lt Nat.and_le_right ht, nI_and k t⟩
/-- does one of n items from i on share just one post with the set t -/
def pk1 (f : Nat → Int32) (t : Nat) : Nat → Bool
  | 0 => false
  | m + 1 => pk1 f t m || decide (fX7_size (f m &&& nI t) = some 1)
theorem xpick_loop {S_rows : Nat → Nat → Int32} {j i n t : Nat} (hj : j < 8) (hin : i + n ≤ 40) (ht : t < 256) : ∀ (m u : Nat), u ≤ n → n + 1 ≤ u + m → pk1 (fun q => S_rows j (i + q)) t u = false → fX4_picksOne_c3 S_rows m (nI j) (nI i) (nI n) (nI t) (nI (i + u)) = some (if pk1 (fun q => S_rows j (i + q)) t n then 1 else 0) := by
  intro m
  induction m with
  | zero => intro u h1 h2; omega
  | succ m ih =>
    intro u h1 h2 h3
    rw [fX4_picksOne_c3, nI_add]
    by_cases q : u = n
    · subst q
      rw [if_pos (nI_le (Nat.le_refl _) (by omega)), h3]; rfl
    · obtain ⟨v, hv, ev⟩ := and_set (S_rows j (i + u)) ht
      rw [if_neg (nI_ge (by omega) (by omega)), rwx_n hj, ldx_n (by omega) (by decide), ev, bc_of v hv, bd1_i]
      have hc := cnt_le v 8
      have hu : pk1 (fun q => S_rows j (i + q)) t (u + 1) = (pk1 (fun q => S_rows j (i + q)) t u || decide (fX7_size (S_rows j (i + u) &&& nI t) = some 1)) := rfl
      rw [h3, Bool.false_or, ev, size_of v hv] at hu
      by_cases r : cnt v 8 = 1
      · have e1 : nI (cnt v 8) = 1 := by rw [r]; rfl
        rw [if_pos e1]
        have hmono : ∀ w, u + 1 ≤ w → pk1 (fun q => S_rows j (i + q)) t w = true := by
          intro w hw
          induction w with
          | zero => omega
          | succ w ihw =>
            by_cases z : w = u
            · subst z; rw [hu, e1]; simp
            · show (pk1 (fun q => S_rows j (i + q)) t w || _) = true
              rw [ihw (by omega), Bool.true_or]
        rw [hmono n (by omega)]; rfl
      · have e1 : ¬ nI (cnt v 8) = 1 := fun z => r ((nI_eq (a := cnt v 8) (b := 1) (by omega) (by decide)).mp z)
        rw [if_neg e1, nI_1]
        have h4 : pk1 (fun q => S_rows j (i + q)) t (u + 1) = false := by
          rw [hu]
          simp [e1]
        exact ih (u + 1) (by omega) (by omega) h4
theorem xpick_of {S_rows : Nat → Nat → Int32} {j i n t : Nat} (hj : j < 8) (hin : i + n ≤ 40) (ht : t < 256) : fX4_picksOne S_rows (nI j) (nI i) (nI n) (nI t) = some (if pk1 (fun q => S_rows j (i + q)) t n then 1 else 0) := by
  have := xpick_loop (S_rows := S_rows) hj hin ht FU 0 (Nat.zero_le _) (by unfold FU; omega) rfl
  exact this
theorem mpick_loop {M_item : Nat → Int32} (mp : Int32) (L1 L2 : Nat → Int32) (k100 : Int32 → Int32 → Int32 → Int32 → Int32 → Int32 → Int32 → Int32 → Option (Int32 × Int32 × Int32)) {j i n t : Nat} (hj : j < 8) (hin : i + n ≤ 40) (ht : t < 256) (x4 x5 : Int32) : ∀ (m u : Nat) (b : Int32), u ≤ n → n + 1 ≤ u + m → (b = if pk1 (fun q => M_item (40 * j + i + q)) t u then 1 else 0) → fX7_picks_c125 mp L1 L2 M_item k100 m 0 0 (nI j) (nI i) (nI n) x4 x5 (nI t) b (nI u) = (if pk1 (fun q => M_item (40 * j + i + q)) t n then k100 0 0 (nI j) (nI i) (nI n) x4 x5 (nI t + 1) else (if x5 = 0 then some (0, 0, 0) else some (nI t, 0, 0))) := by
  intro m
  induction m with
  | zero => intro u b h1 h2; omega
  | succ m ih =>
    intro u b h1 h2 h3
    rw [fX7_picks_c125]
    unfold fX7_picks_c160
    by_cases q : u = n
    · subst q
      rw [if_pos (nI_le (Nat.le_refl _) (by omega)), h3]
      by_cases r : pk1 (fun q => M_item (40 * j + i + q)) t u = true
      · rw [if_pos r, if_pos r, if_neg (by decide)]
      · rw [if_neg r, if_neg r, if_pos rfl]
    · obtain ⟨v, hv, ev⟩ := and_set (M_item (40 * j + i + u)) ht
      have hu : pk1 (fun q => M_item (40 * j + i + q)) t (u + 1) = (pk1 (fun q => M_item (40 * j + i + q)) t u || decide (fX7_size (M_item (40 * j + i + u) &&& nI t) = some 1)) := rfl
      rw [if_neg (nI_ge (by omega) (by omega)), nI_1]
      by_cases r : pk1 (fun q => M_item (40 * j + i + q)) t u = true
      · rw [h3, if_pos r, if_neg (by decide)]
        refine ih (u + 1) 1 (by omega) (by omega) ?_
        rw [hu, r, Bool.true_or]; rfl
      · have r' : pk1 (fun q => M_item (40 * j + i + q)) t u = false := by simpa using r
        rw [h3, if_neg r, if_pos rfl, pl40, nI_add, ldx_n (by omega) (by decide), ev, size_of v hv, bd1_i]
        rw [r', Bool.false_or, ev, size_of v hv] at hu
        have hc := cnt_le v 8
        by_cases w : nI (cnt v 8) = 1
        · rw [if_pos w]
          refine ih (u + 1) 1 (by omega) (by omega) ?_
          rw [hu, w]; simp
        · rw [if_neg w]
          refine ih (u + 1) 0 (by omega) (by omega) ?_
          rw [hu]; simp [w]
theorem pk1_eq {f g : Nat → Int32} {t : Nat} : ∀ n, (∀ q, q < n → f q = g q) → pk1 f t n = pk1 g t n
  | 0, _ => rfl
  | n + 1, h => by
    unfold pk1
    rw [pk1_eq n (fun q hq => h q (by omega)), h n (by omega)]
theorem pick_sets {S_lanes S_sizes : Nat → Int32} {S_rows : Nat → Nat → Int32} {M_lane M_many M_item : Nat → Int32} (hS : iSh S_lanes S_sizes S_rows M_lane M_many M_item) {n : Nat} (hn : n ≤ 8) (L1 L2 : Nat → Int32) {j i m k : Nat} (hj : j < 8) (him : i + m ≤ 40) (hk : k ≤ 4) {w : Int32} (hw : w = 0 ∨ w = 1) : ∀ (fu t : Nat), t ≤ 2 ^ n → 2 ^ n + 1 ≤ t + fu → ∃ z : Int32, fX6_firstUnpicked_c3 S_rows (nI n) fu (nI j) (nI i) (nI m) (nI k) (nI t) = some z ∧ fX7_picks_c100 (nI n) L1 L2 M_item fu 0 0 (nI j) (nI i) (nI m) (nI k) w (nI t) = some (if w = 1 then z else if z = -1000000 then 1 else 0, 0, 0) := by
  have h8 := pow8 hn
  have h2 : 0 < 2 ^ n := Nat.two_pow_pos n
  intro fu
  induction fu with
  | zero => intro t h1 h2; omega
  | succ fu ih =>
    intro t h1 h2
    rw [fX6_firstUnpicked_c3, fX7_picks_c100]
    unfold fX1_allPosts fX7_all
    rw [bd1_i, bd1_i, all_of n (by omega)]
    by_cases q : t = 2 ^ n
    · rw [if_pos (nI_lt (by omega) (by omega)), if_pos (nI_lt (by omega) (by omega))]
      refine ⟨-1000000, rfl, ?_⟩
      rcases hw with rfl | rfl
      · rw [if_pos rfl, if_neg (by decide), if_pos rfl]
      · rw [if_neg (by decide), if_pos rfl]
    · have ht : t < 256 := by omega
      have hc := cnt_le t 8
      rw [if_neg (nI_nlt (by omega) (by omega)), if_neg (nI_nlt (by omega) (by omega)), bc_of t ht, bd1_i, size_of t ht, bd1_i]
      have hi := ih (t + 1) (by omega) (by omega)
      by_cases r : nI k < nI (cnt t 8)
      · rw [if_pos r, if_pos r, nI_1]; exact hi
      · rw [if_neg r, if_neg r, xpick_of hj him ht, bd1_i]
        have hm := mpick_loop (M_item := M_item) (nI n) L1 L2 (fX7_picks_c100 (nI n) L1 L2 M_item fu) (j := j) (i := i) (n := m) (t := t) hj him ht (nI k) w FU 0 0 (Nat.zero_le _) (by unfold FU; omega) rfl
        have hpe : pk1 (fun q => M_item (40 * j + i + q)) t m = pk1 (fun q => S_rows j (i + q)) t m := pk1_eq m (fun q hq => by
          have := (hS j hj).2.2.2.2 (i + q) (by omega)
          rw [← this, Nat.add_assoc])
        rw [hpe] at hm
        rw [show fX7_picks_c125 (nI n) L1 L2 M_item (fX7_picks_c100 (nI n) L1 L2 M_item fu) FU 0 0 (nI j) (nI i) (nI m) (nI k) w (nI t) 0 0 = _ from hm]
        by_cases z : pk1 (fun q => S_rows j (i + q)) t m = true
        · rw [if_pos z, if_pos z, if_neg (by decide), nI_1]; exact hi
        · rw [if_neg z, if_neg z, if_pos rfl]
          refine ⟨nI t, rfl, ?_⟩
          have hne : ¬ nI t = -1000000 := fun e => by
            have := congrArg Int32.toInt e
            rw [nI_toInt (by omega), show (-1000000 : Int32).toInt = -1000000 from by decide] at this
            omega
          rcases hw with rfl | rfl
          · rw [if_pos rfl, if_neg (by decide), if_neg hne]
          · rw [if_neg (by decide), if_pos rfl]
theorem st_picks {B_latestFinding : Int32} {B_latestFault : Int32} {S_lanes : Nat → Int32} {S_sizes : Nat → Int32} {S_rows : Nat → Nat → Int32} {N_posts : Int32} {N_neighbours : Nat → Int32} {R_length : Int32} {R_tape : Nat → Int32} {T_size : Int32} {T_rounds : Nat → Int32} {K_length : Int32} {K_begun : Nat → Int32} {M_status : Int32} {M_posts : Int32} {M_rounds : Int32} {M_taped : Int32} {M_latest : Int32} {M_traced : Int32} {M_lane : Nat → Int32} {M_many : Nat → Int32} {M_item : Nat → Int32} {M_beside : Nat → Int32} {M_round : Nat → Int32} {M_tape : Nat → Int32} {M_trace : Nat → Int32} (hI : Inv B_latestFinding B_latestFault S_lanes S_sizes S_rows N_posts N_neighbours R_length R_tape T_size T_rounds K_length K_begun M_status M_posts M_rounds M_taped M_latest M_traced M_lane M_many M_item M_beside M_round M_tape M_trace) (p0 : Int32) (p1 : Int32) (p2 : Int32) (p3 : Int32) (p4 : Int32) (M_thrown : Int32) : ∃ (rr : Int32) (B_latestFinding_z : Int32) (M_thrown_z : Int32) (M_status_z : Int32), fX6_picks B_latestFinding S_lanes S_sizes S_rows N_posts p0 p1 p2 p3 p4 = some (rr, B_latestFinding_z) ∧ fX7_picks M_thrown M_status M_posts M_lane M_many M_item p0 p1 p2 p3 p4 = some (rr, M_thrown_z, M_status_z) ∧ Inv B_latestFinding_z B_latestFault S_lanes S_sizes S_rows N_posts N_neighbours R_length R_tape T_size T_rounds K_length K_begun M_status_z M_posts M_rounds M_taped M_latest M_traced M_lane M_many M_item M_beside M_round M_tape M_trace := by
  obtain ⟨n, nb, ⟨hN, eN, eM, h4⟩, hS, hT, hTT, hTr, e1, e2⟩ := id hI
  have hn := hN.1
  have z1 : (1 : Int32).toInt = 1 := rfl
  have z0 : (0 : Int32).toInt = 0 := rfl
  have o64 : (1 : Int64) = (1 : Int32).toInt64 := rfl
  rcases sheet_cases p0 with ⟨j, hj, rfl, ha, hb⟩ | ⟨ha, hb⟩
  case inr =>
    refine ⟨-1000001, B_latestFinding, 0, M_status, ?_, ?_, hI⟩
    · unfold fX6_picks
      rw [ha, bd1_i, if_pos rfl]
    · unfold fX7_picks
      rw [hb, bd1_i, if_pos rfl]
  by_cases c1 : p2 < 1 ∨ 40 < p2
  · refine ⟨-1000001, B_latestFinding, 0, M_status, ?_, ?_, hI⟩
    · unfold fX6_picks
      rw [ha, bd1_i, if_neg (by decide)]
      by_cases q : p2 < 1
      · rw [if_pos q]
      · rw [if_neg q, if_pos (c1.resolve_left q)]
    · unfold fX7_picks
      rw [hb, bd1_i, if_neg (by decide), o64, show (40 : Int64) = (40 : Int32).toInt64 from rfl, in_f c1, bd1_i, if_pos rfl]
  have c1a : ¬ p2 < 1 := fun q => c1 (Or.inl q)
  have c1b : ¬ 40 < p2 := fun q => c1 (Or.inr q)
  by_cases c2 : p3 < 1 ∨ 4 < p3
  · refine ⟨-1000001, B_latestFinding, 0, M_status, ?_, ?_, hI⟩
    · unfold fX6_picks
      rw [ha, bd1_i, if_neg (by decide), if_neg c1a, if_neg c1b]
      by_cases q : p3 < 1
      · rw [if_pos q]
      · rw [if_neg q, if_pos (c2.resolve_left q)]
    · unfold fX7_picks
      rw [hb, bd1_i, if_neg (by decide), o64, show (40 : Int64) = (40 : Int32).toInt64 from rfl, in_t c1a c1b, bd1_i, if_neg (by decide), show (4 : Int64) = (4 : Int32).toInt64 from rfl, in_f c2, bd1_i, if_pos rfl]
  have c2a : ¬ p3 < 1 := fun q => c2 (Or.inl q)
  have c2b : ¬ 4 < p3 := fun q => c2 (Or.inr q)
  have hM0 : ∀ (rest : Option (Int32 × Int32 × Int32)), True := fun _ => trivial
  rcases rng_cases p4 2 (by decide) with ⟨w, hw, rfl⟩ | h
  case inr =>
    refine ⟨-1000001, B_latestFinding, 0, M_status, ?_, ?_, hI⟩
    · unfold fX6_picks
      rw [ha, bd1_i, if_neg (by decide), if_neg c1a, if_neg c1b, if_neg c2a, if_neg c2b]
      by_cases q : p4 < 0
      · rw [if_pos q]
      · have h5 := h.resolve_left q
        rw [if_neg q, if_neg]
        intro r
        rw [i32_le, z1] at r
        rw [i32_le, nI_toInt (by decide)] at h5
        omega
    · unfold fX7_picks
      have hin : fX7_in p4.toInt64 0 (1 : Int32).toInt64 = some 0 := in_k_f (k := 2) h (by decide)
      rw [hb, bd1_i, if_neg (by decide), o64, show (40 : Int64) = (40 : Int32).toInt64 from rfl, in_t c1a c1b, bd1_i, if_neg (by decide), show (4 : Int64) = (4 : Int32).toInt64 from rfl, in_t c2a c2b, bd1_i, if_neg (by decide), hin, bd1_i, if_pos rfl]
  have hw2 : nI w = 0 ∨ nI w = 1 := by
    rcases (show w = 0 ∨ w = 1 by omega) with rfl | rfl
    · exact Or.inl rfl
    · exact Or.inr rfl
  have hin : fX7_in (nI w).toInt64 0 (1 : Int32).toInt64 = some 1 := by
    rw [z64, in_t (nI_pos (by omega)) (show ¬ (1 : Int32) < nI w from nI_nlt (show w ≤ 1 by omega) (by decide))]
  have hX0 : fX6_picks B_latestFinding S_lanes S_sizes S_rows N_posts (nI j) p1 p2 p3 (nI w) = bd1 (fX4_findPlaces S_lanes S_sizes (nI j) p1 p2) (fun r10 => (if r10 = 0 then bd1 (fX6_firstUnpicked S_rows (nI n) (nI j) p1 p2 p3) (fun r13 => (if nI w = 1 then some (r13, r10) else (if r13 = (-1000000) then some (1, r10) else some (0, r10)))) else some ((-1000010 : Int32) - r10, r10))) := by
    unfold fX6_picks
    rw [ha, bd1_i, if_neg (by decide), if_neg c1a, if_neg c1b, if_neg c2a, if_neg c2b, if_neg (nI_pos (by omega)), if_pos (show nI w ≤ (1 : Int32) from nI_le (show w ≤ 1 by omega) (by decide)), eN]
  obtain ⟨s1, s2, s3, ⟨k, hk, ek⟩, s5⟩ := hS j hj
  unfold fX7_picks
  rw [hb, bd1_i, if_neg (by decide), o64, show (40 : Int64) = (40 : Int32).toInt64 from rfl, in_t c1a c1b, bd1_i, if_neg (by decide), show (4 : Int64) = (4 : Int32).toInt64 from rfl, in_t c2a c2b, bd1_i, if_neg (by decide), hin, bd1_i, if_neg (by decide), ldx_n hj (by decide), s1]
  rw [hX0]
  rcases lane_neg s2 with ⟨hm, hm2⟩ | ⟨hm, hm2⟩
  · rw [if_neg hm2, fp_null hj hm, bd1_i, if_neg (by decide)]
    exact ⟨(-1000010 : Int32) - 1, 1, 0, 1, rfl, rfl, ⟨n, nb, ⟨hN, eN, eM, h4⟩, hS, hT, hTT, hTr, rfl, e2⟩⟩
  rw [if_pos hm2, fp_at hj hm]
  have hbad : ∃ (rr : Int32) (B_latestFinding_z : Int32) (M_thrown_z : Int32) (M_status_z : Int32), (some ((-1000010 : Int32) - 2, (2 : Int32)) = some (rr, B_latestFinding_z)) ∧ (some ((-1000010 : Int32) - 2, (0 : Int32), (2 : Int32)) = some (rr, M_thrown_z, M_status_z)) ∧ Inv B_latestFinding_z B_latestFault S_lanes S_sizes S_rows N_posts N_neighbours R_length R_tape T_size T_rounds K_length K_begun M_status_z M_posts M_rounds M_taped M_latest M_traced M_lane M_many M_item M_beside M_round M_tape M_trace :=
    ⟨(-1000010 : Int32) - 2, 2, 0, 2, rfl, rfl, ⟨n, nb, ⟨hN, eN, eM, h4⟩, hS, hT, hTT, hTr, rfl, e2⟩⟩
  have c1a' : 1 ≤ p2.toInt := by rw [i32_lt, z1] at c1a; omega
  have c1b' : p2.toInt ≤ 40 := by rw [i32_lt, show (40 : Int32).toInt = 40 from rfl] at c1b; omega
  by_cases d1 : p1 < 0
  · rw [if_pos d1, hp_f hj ek hk p1 p2 (by rw [i32_lt, z0] at d1; omega), bd1_i, if_pos rfl, bd1_i, if_neg (by decide)]
    exact hbad
  have d1' : 0 ≤ p1.toInt := by rw [i32_lt, z0] at d1; omega
  rw [if_neg d1, ldx_n hj (by decide), s3, ek]
  by_cases d2 : lg_cmp (p1.toInt64 + p2.toInt64) (nI k).toInt64 ≤ 0
  case neg =>
    have q : (nI k).toInt64 < p1.toInt64 + p2.toInt64 := Classical.not_not.mp (fun r => d2 ((lgc_le _ _).mpr r))
    rw [Int64.lt_iff_toInt_lt, add64, Int32.toInt_toInt64, nI_toInt (by omega)] at q
    rw [if_neg d2, hp_f hj ek hk p1 p2 (by omega), bd1_i, if_pos rfl, bd1_i, if_neg (by decide)]
    exact hbad
  have q4 : p1.toInt + p2.toInt ≤ k := by
    have q := (lgc_le _ _).mp d2
    rw [Int64.lt_iff_toInt_lt, add64, Int32.toInt_toInt64, nI_toInt (by omega)] at q
    omega
  rw [if_pos d2]
  obtain ⟨i, hi, rfl⟩ : ∃ i : Nat, i ≤ k ∧ p1 = nI i := nI_of2 (M := nI k) (n := k) (nI_toInt (by omega)) d1 (by rw [i32_le, nI_toInt (by omega)]; omega)
  obtain ⟨m, hm9, rfl⟩ : ∃ m : Nat, m ≤ k ∧ p2 = nI m := nI_of2 (M := nI k) (n := k) (nI_toInt (by omega)) (by rw [i32_lt, z0]; omega) (by rw [i32_le, nI_toInt (by omega)]; omega)
  obtain ⟨f, hf, rfl⟩ : ∃ f : Nat, f ≤ 4 ∧ p3 = nI f := nI_of2 (M := 4) (n := 4) rfl (by rw [i32_lt, z1] at c2a; rw [i32_lt, z0]; omega) (by rw [i32_lt] at c2b; rw [i32_le]; omega)
  rw [nI_toInt (by omega), nI_toInt (by omega)] at q4
  rw [hp_t hj ek hk (by omega), bd1_i, if_neg (by decide), bd1_i, if_pos rfl]
  have h8 := pow8 hn
  have h2p : 0 < 2 ^ n := Nat.two_pow_pos n
  obtain ⟨z, z2, z3⟩ := pick_sets hS hn M_lane M_many (j := j) (i := i) (m := m) (k := f) hj (by omega) hf hw2 FU 1 (by omega) (by unfold FU; omega)
  rw [show fX6_firstUnpicked S_rows (nI n) (nI j) (nI i) (nI m) (nI f) = some z from z2, bd1_i, eM, show fX7_picks_c100 (nI n) M_lane M_many M_item FU 0 0 (nI j) (nI i) (nI m) (nI f) (nI w) 1 = _ from z3]
  by_cases hw1 : nI w = 1
  · rw [if_pos hw1, if_pos hw1]
    exact ⟨z, 0, 0, 0, rfl, rfl, ⟨n, nb, ⟨hN, eN, rfl, h4⟩, hS, hT, hTT, hTr, rfl, e2⟩⟩
  · rw [if_neg hw1, if_neg hw1]
    by_cases hz : z = -1000000
    · rw [if_pos hz, if_pos hz]
      exact ⟨1, 0, 0, 0, rfl, rfl, ⟨n, nb, ⟨hN, eN, rfl, h4⟩, hS, hT, hTT, hTr, rfl, e2⟩⟩
    · rw [if_neg hz, if_neg hz]
      exact ⟨0, 0, 0, 0, rfl, rfl, ⟨n, nb, ⟨hN, eN, rfl, h4⟩, hS, hT, hTT, hTr, rfl, e2⟩⟩
