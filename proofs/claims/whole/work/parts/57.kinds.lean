/-! steps: told, kind, as, count, ask -/
theorem size_of : ∀ v, v < 256 → fX7_size (nI v) = some (nI (cnt v 8)) := by decide +kernel
theorem bc_of : ∀ v, v < 256 → fJ6_bitCount_0f7a4 (nI v) = some (nI (cnt v 8)) := by decide +kernel
theorem deg_of {nb : Nat → Nat} {F : Nat → Int32} (hF : ∀ i, i < 8 → F i = nI (nb i)) (h8 : ∀ i, i < 8 → nb i < 256) {a : Nat} (ha : a < 8) : fX1_degree F (nI a) = some (nI (cnt (nb a) 8)) := by
  unfold fX1_degree
  rw [ldx_n ha (by decide), hF a ha, bc_of _ (h8 a ha), bd1_i]
def mst (nb : Nat → Nat) : Nat → Nat
  | 0 => 0
  | k + 1 => if mst nb k < cnt (nb k) 8 then cnt (nb k) 8 else mst nb k
theorem mst_le (nb : Nat → Nat) : ∀ k, mst nb k ≤ 8
  | 0 => by unfold mst; omega
  | k + 1 => by
    unfold mst
    have := mst_le nb k
    have := cnt_le (nb k) 8
    split <;> omega
theorem most_loop {n : Nat} {nb : Nat → Nat} (h : iN n nb) {F : Nat → Int32} (hF : ∀ i, i < 8 → F i = nI (nb i)) : ∀ (m k : Nat), k ≤ n → n + 1 ≤ k + m → fX1_mostNeighbours_c4 (nI n) F m (nI (mst nb k)) (nI k) = some (nI (mst nb n)) := by
  have hn := h.1
  intro m
  induction m with
  | zero => intro k h1 h2; omega
  | succ m ih =>
    intro k h1 h2
    rw [fX1_mostNeighbours_c4]
    by_cases q : k = n
    · subst q; rw [if_pos (nI_le (Nat.le_refl k) (by omega))]
    · rw [if_neg (nI_ge (by omega) (by omega)), deg_of hF (row_lt h) (by omega), bd1_i, bnd_i, nI_1]
      have hi := ih (k + 1) (by omega) (by omega)
      have hu : mst nb (k + 1) = if mst nb k < cnt (nb k) 8 then cnt (nb k) 8 else mst nb k := rfl
      have := mst_le nb k
      have := cnt_le (nb k) 8
      by_cases r : mst nb k < cnt (nb k) 8
      · rw [if_pos r] at hu; rw [hu] at hi
        rw [if_pos (nI_lt r (by omega))]; exact hi
      · rw [if_neg r] at hu; rw [hu] at hi
        rw [if_neg (nI_nlt (by omega) (by omega))]; exact hi
theorem most_of {n : Nat} {nb : Nat → Nat} (h : iN n nb) {F : Nat → Int32} (hF : ∀ i, i < 8 → F i = nI (nb i)) : fX1_mostNeighbours (nI n) F = some (nI (mst nb n)) :=
  most_loop h hF FU 0 (Nat.zero_le _) (by have := h.1; unfold FU; omega)
def knd (n : Nat) (nb : Nat → Nat) (a : Nat) : Int32 := if cnt (nb a) 8 = 0 then 4 else if cnt (nb a) 8 = 1 then 2 else if cnt (nb a) 8 = mst nb n then 3 else 1
theorem knd_in (n : Nat) (nb : Nat → Nat) (a : Nat) : knd n nb a = 1 ∨ knd n nb a = 2 ∨ knd n nb a = 3 ∨ knd n nb a = 4 := by
  unfold knd
  split
  · exact Or.inr (Or.inr (Or.inr rfl))
  · split
    · exact Or.inr (Or.inl rfl)
    · split
      · exact Or.inr (Or.inr (Or.inl rfl))
      · exact Or.inl rfl
theorem nI_eqn {a b : Nat} (ha : a ≤ 8) (hb : b ≤ 8) : (nI a = nI b) = (a = b) := propext (nI_eq (by omega) (by omega))
theorem xkind_of {n : Nat} {nb : Nat → Nat} (h : iN n nb) {F : Nat → Int32} (hF : ∀ i, i < 8 → F i = nI (nb i)) {a : Nat} (ha : a < n) : fX1_kindOf (nI n) F (nI a) = some (knd n nb a) := by
  have hn := h.1
  have h1 := cnt_le (nb a) 8
  have h2 := mst_le nb n
  unfold fX1_kindOf knd
  rw [deg_of hF (row_lt h) (by omega), bd1_i, most_of h hF, bd1_i]
  by_cases q0 : cnt (nb a) 8 = 0
  · rw [if_pos q0, if_pos (show nI (cnt (nb a) 8) = 0 by rw [q0]; rfl)]
  · rw [if_neg q0, if_neg (show ¬ nI (cnt (nb a) 8) = (0 : Int32) from fun w => q0 ((nI_eq (a := cnt (nb a) 8) (b := 0) (by omega) (by omega)).mp w))]
    by_cases q1 : cnt (nb a) 8 = 1
    · rw [if_pos q1, if_pos (show nI (cnt (nb a) 8) = 1 by rw [q1]; rfl)]
    · rw [if_neg q1, if_neg (show ¬ nI (cnt (nb a) 8) = (1 : Int32) from fun w => q1 ((nI_eq (a := cnt (nb a) 8) (b := 1) (by omega) (by omega)).mp w))]
      by_cases q2 : cnt (nb a) 8 = mst nb n
      · rw [if_pos q2, if_pos (by rw [q2])]
      · rw [if_neg q2, if_neg (fun w => q2 ((nI_eq (by omega) (by omega)).mp w))]
theorem mkind_loop {n : Nat} {nb : Nat → Nat} (h : iN n nb) {F : Nat → Int32} (hF : ∀ i, i < 8 → F i = nI (nb i)) (x : Int32) : ∀ (m k : Nat), k ≤ n → n + 1 ≤ k + m → fX7_kindOf_c15 (nI n) F m x (nI (mst nb k)) (nI k) = (if x = 0 then some 4 else (if x = 1 then some 2 else (if x = nI (mst nb n) then some 3 else some 1))) := by
  have hn := h.1
  intro m
  induction m with
  | zero => intro k h1 h2; omega
  | succ m ih =>
    intro k h1 h2
    rw [fX7_kindOf_c15]
    by_cases q : k = n
    · subst q; rw [if_pos (nI_le (Nat.le_refl k) (by omega))]
    · rw [if_neg (nI_ge (by omega) (by omega)), ldx_n (by omega) (by decide), hF k (by omega), size_of _ (row_lt h k (by omega)), bd1_i, ldx_n (by omega) (by decide), hF k (by omega), size_of _ (row_lt h k (by omega)), bd1_i, nI_1]
      have hi := ih (k + 1) (by omega) (by omega)
      have hu : mst nb (k + 1) = if mst nb k < cnt (nb k) 8 then cnt (nb k) 8 else mst nb k := rfl
      have := mst_le nb k
      have := cnt_le (nb k) 8
      by_cases r : mst nb k < cnt (nb k) 8
      · rw [if_pos r] at hu; rw [hu] at hi
        rw [if_neg (nI_ge r (by omega))]; exact hi
      · rw [if_neg r] at hu; rw [hu] at hi
        rw [if_pos (nI_le (by omega) (by omega))]; exact hi
theorem mkind_of {n : Nat} {nb : Nat → Nat} (h : iN n nb) {F : Nat → Int32} (hF : ∀ i, i < 8 → F i = nI (nb i)) {a : Nat} (ha : a < n) : fX7_kindOf (nI n) F (nI a) = some (knd n nb a) := by
  have hn := h.1
  have h1 := cnt_le (nb a) 8
  have h2 := mst_le nb n
  unfold fX7_kindOf knd
  rw [ldx_n (by omega) (by decide), hF a (by omega), size_of _ (row_lt h a (by omega)), bd1_i]
  have hl := mkind_loop h hF (nI (cnt (nb a) 8)) FU 0 (Nat.zero_le _) (by unfold FU; omega)
  rw [show nI (mst nb 0) = (0 : Int32) from rfl, show nI 0 = (0 : Int32) from rfl] at hl
  rw [hl]
  by_cases q0 : cnt (nb a) 8 = 0
  · rw [if_pos q0, if_pos (show nI (cnt (nb a) 8) = 0 by rw [q0]; rfl)]
  · rw [if_neg q0, if_neg (show ¬ nI (cnt (nb a) 8) = (0 : Int32) from fun w => q0 ((nI_eq (a := cnt (nb a) 8) (b := 0) (by omega) (by omega)).mp w))]
    by_cases q1 : cnt (nb a) 8 = 1
    · rw [if_pos q1, if_pos (show nI (cnt (nb a) 8) = 1 by rw [q1]; rfl)]
    · rw [if_neg q1, if_neg (show ¬ nI (cnt (nb a) 8) = (1 : Int32) from fun w => q1 ((nI_eq (a := cnt (nb a) 8) (b := 1) (by omega) (by omega)).mp w))]
      by_cases q2 : cnt (nb a) 8 = mst nb n
      · rw [if_pos q2, if_pos (by rw [q2])]
      · rw [if_neg q2, if_neg (fun w => q2 ((nI_eq (by omega) (by omega)).mp w))]
theorem st_kind {B_latestFinding : Int32} {B_latestFault : Int32} {S_lanes : Nat → Int32} {S_sizes : Nat → Int32} {S_rows : Nat → Nat → Int32} {N_posts : Int32} {N_neighbours : Nat → Int32} {R_length : Int32} {R_tape : Nat → Int32} {T_size : Int32} {T_rounds : Nat → Int32} {K_length : Int32} {K_begun : Nat → Int32} {M_status : Int32} {M_posts : Int32} {M_rounds : Int32} {M_taped : Int32} {M_latest : Int32} {M_traced : Int32} {M_lane : Nat → Int32} {M_many : Nat → Int32} {M_item : Nat → Int32} {M_beside : Nat → Int32} {M_round : Nat → Int32} {M_tape : Nat → Int32} {M_trace : Nat → Int32} (hI : Inv B_latestFinding B_latestFault S_lanes S_sizes S_rows N_posts N_neighbours R_length R_tape T_size T_rounds K_length K_begun M_status M_posts M_rounds M_taped M_latest M_traced M_lane M_many M_item M_beside M_round M_tape M_trace) (p0 : Int32) (M_thrown : Int32) : ∃ (rr : Int32) (M_thrown_z : Int32), fX6_kind N_posts N_neighbours p0 = some rr ∧ fX7_kind M_thrown M_posts M_beside p0 = some (rr, M_thrown_z) ∧ Inv B_latestFinding B_latestFault S_lanes S_sizes S_rows N_posts N_neighbours R_length R_tape T_size T_rounds K_length K_begun M_status M_posts M_rounds M_taped M_latest M_traced M_lane M_many M_item M_beside M_round M_tape M_trace := by
  obtain ⟨n, nb, ⟨hN, eN, eM, h4⟩, hS, hT, hTT, hTr, e1, e2⟩ := id hI
  have hn := hN.1
  rcases post_cases p0 hn with ⟨a, ha, rfl, ha1, ha2⟩ | ⟨ha1, ha2⟩
  · refine ⟨knd n nb a, 0, ?_, ?_, hI⟩
    · unfold fX6_kind
      rw [eN, ha1, bd1_i, if_neg (by decide), xkind_of hN (fun i hi => (h4 i hi).1) ha, bd1_i]
    · unfold fX7_kind
      rw [eM, ha2, bd1_i, if_neg (by decide), mkind_of hN (fun i hi => (h4 i hi).2) ha, bd1_i]
  · refine ⟨-1000001, 0, ?_, ?_, hI⟩
    · unfold fX6_kind
      rw [eN, ha1, bd1_i, if_pos rfl]
    · unfold fX7_kind
      rw [eM, ha2, bd1_i, if_pos rfl]
theorem told_in {x : Int32} (h : x < 0 ∨ nI 4 ≤ x) : ¬ x = 0 ∧ ¬ x = 1 ∧ ¬ x = 2 ∧ ¬ x = 3 := by
  refine ⟨?_, ?_, ?_, ?_⟩ <;> (intro q; subst q; rcases h with h | h <;> exact absurd h (by decide))
theorem st_told {B_latestFinding : Int32} {B_latestFault : Int32} {S_lanes : Nat → Int32} {S_sizes : Nat → Int32} {S_rows : Nat → Nat → Int32} {N_posts : Int32} {N_neighbours : Nat → Int32} {R_length : Int32} {R_tape : Nat → Int32} {T_size : Int32} {T_rounds : Nat → Int32} {K_length : Int32} {K_begun : Nat → Int32} {M_status : Int32} {M_posts : Int32} {M_rounds : Int32} {M_taped : Int32} {M_latest : Int32} {M_traced : Int32} {M_lane : Nat → Int32} {M_many : Nat → Int32} {M_item : Nat → Int32} {M_beside : Nat → Int32} {M_round : Nat → Int32} {M_tape : Nat → Int32} {M_trace : Nat → Int32} (hI : Inv B_latestFinding B_latestFault S_lanes S_sizes S_rows N_posts N_neighbours R_length R_tape T_size T_rounds K_length K_begun M_status M_posts M_rounds M_taped M_latest M_traced M_lane M_many M_item M_beside M_round M_tape M_trace) (p0 : Int32) (p1 : Int32) (M_thrown : Int32) : ∃ (rr : Int32) (M_thrown_z : Int32), fX6_told N_posts N_neighbours p0 p1 = some rr ∧ fX7_told M_thrown M_posts M_beside p0 p1 = some (rr, M_thrown_z) ∧ Inv B_latestFinding B_latestFault S_lanes S_sizes S_rows N_posts N_neighbours R_length R_tape T_size T_rounds K_length K_begun M_status M_posts M_rounds M_taped M_latest M_traced M_lane M_many M_item M_beside M_round M_tape M_trace := by
  obtain ⟨n, nb, ⟨hN, eN, eM, h4⟩, hS, hT, hTT, hTr, e1, e2⟩ := id hI
  have hn := hN.1
  have hFX : ∀ i, i < 8 → N_neighbours i = nI (nb i) := fun i hi => (h4 i hi).1
  have hFM : ∀ i, i < 8 → M_beside i = nI (nb i) := fun i hi => (h4 i hi).2
  rcases post_cases p0 hn with ⟨a, ha, rfl, ha1, ha2⟩ | ⟨ha1, ha2⟩
  case inr =>
    refine ⟨-1000001, 0, ?_, ?_, hI⟩
    · unfold fX6_told
      rw [eN, ha1, bd1_i, if_pos rfl]
    · unfold fX7_told
      rw [eM, ha2, bd1_i, if_pos rfl]
  rcases rng_cases p1 4 (by decide) with ⟨t, ht, rfl⟩ | h
  · have hin : fX7_in (nI t).toInt64 0 3 = some 1 := by
      rw [z64, show (3 : Int64) = (nI 3).toInt64 from rfl, in_t (nI_pos (by omega)) (nI_nlt (by omega) (by omega))]
    rcases (show t = 0 ∨ t = 1 ∨ t = 2 ∨ t = 3 by omega) with rfl | rfl | rfl | rfl
    · refine ⟨nI (cnt (nb a) 8), 0, ?_, ?_, hI⟩
      · unfold fX6_told
        rw [eN, ha1, bd1_i, if_neg (by decide), if_pos (by decide), deg_of hFX (row_lt hN) (by omega), bd1_i]
      · unfold fX7_told
        rw [eM, ha2, bd1_i, if_neg (by decide), hin, bd1_i, if_neg (by decide), if_pos (by decide), ldx_n (by omega) (by decide), hFM a (by omega), size_of _ (row_lt hN a (by omega)), bd1_i]
    · refine ⟨nI (nb a), 0, ?_, ?_, hI⟩
      · unfold fX6_told fX1_neighboursOf
        rw [eN, ha1, bd1_i, if_neg (by decide), if_neg (by decide), if_pos (by decide), ldx_n (by omega) (by decide), hFX a (by omega), bd1_i]
      · unfold fX7_told
        rw [eM, ha2, bd1_i, if_neg (by decide), hin, bd1_i, if_neg (by decide), if_neg (by decide), if_pos (by decide), ldx_n (by omega) (by decide), hFM a (by omega)]
    · refine ⟨nI (wdt n nb (2 ^ a) (n - 1)), 0, ?_, ?_, hI⟩
      · unfold fX6_told
        rw [eN, ha1, bd1_i, if_neg (by decide), if_neg (by decide), if_neg (by decide), if_pos (by decide), xwid_of hN hFX ha, bd1_i]
      · unfold fX7_told
        rw [eM, ha2, bd1_i, if_neg (by decide), hin, bd1_i, if_neg (by decide), if_neg (by decide), if_neg (by decide), if_pos (by decide), mwid_of hN hFM ha, bd1_i]
    · refine ⟨nI (rch n nb (2 ^ a)), 0, ?_, ?_, hI⟩
      · unfold fX6_told
        rw [eN, ha1, bd1_i, if_neg (by decide), if_neg (by decide), if_neg (by decide), if_neg (by decide), if_pos (by decide), sh1 a (by omega), xreach_of hN hFX (p2_lt ha), bd1_i]
      · unfold fX7_told
        rw [eM, ha2, bd1_i, if_neg (by decide), hin, bd1_i, if_neg (by decide), if_neg (by decide), if_neg (by decide), if_neg (by decide), sh1 a (by omega), mreach_of hN hFM (p2_lt ha), bd1_i]
  · obtain ⟨q0, q1, q2, q3⟩ := told_in h
    refine ⟨-1000001, 0, ?_, ?_, hI⟩
    · unfold fX6_told
      rw [eN, ha1, bd1_i, if_neg (by decide), if_neg q0, if_neg q1, if_neg q2, if_neg q3]
    · unfold fX7_told
      have hin : fX7_in p1.toInt64 0 3 = some 0 := in_k_f (k := 4) h (by decide)
      rw [eM, ha2, bd1_i, if_neg (by decide), hin, bd1_i, if_pos rfl]
theorem of_eq (r : Int32) (hr : r = 1 ∨ r = 2 ∨ r = 3 ∨ r = 4) {t : Nat} (ht : t < 5) : (if nI t = 0 then some 1 else (if nI t = r then some 1 else (if nI t = 1 then (if r = 4 then some 0 else some 1) else some 0))) = fX7_isOf r (nI t) := by
  rcases hr with rfl | rfl | rfl | rfl <;> rcases (show t = 0 ∨ t = 1 ∨ t = 2 ∨ t = 3 ∨ t = 4 by omega) with rfl | rfl | rfl | rfl | rfl <;> decide +kernel
theorem st_as {B_latestFinding : Int32} {B_latestFault : Int32} {S_lanes : Nat → Int32} {S_sizes : Nat → Int32} {S_rows : Nat → Nat → Int32} {N_posts : Int32} {N_neighbours : Nat → Int32} {R_length : Int32} {R_tape : Nat → Int32} {T_size : Int32} {T_rounds : Nat → Int32} {K_length : Int32} {K_begun : Nat → Int32} {M_status : Int32} {M_posts : Int32} {M_rounds : Int32} {M_taped : Int32} {M_latest : Int32} {M_traced : Int32} {M_lane : Nat → Int32} {M_many : Nat → Int32} {M_item : Nat → Int32} {M_beside : Nat → Int32} {M_round : Nat → Int32} {M_tape : Nat → Int32} {M_trace : Nat → Int32} (hI : Inv B_latestFinding B_latestFault S_lanes S_sizes S_rows N_posts N_neighbours R_length R_tape T_size T_rounds K_length K_begun M_status M_posts M_rounds M_taped M_latest M_traced M_lane M_many M_item M_beside M_round M_tape M_trace) (p0 : Int32) (p1 : Int32) (M_thrown : Int32) : ∃ (rr : Int32) (B_latestFinding_z : Int32) (M_thrown_z : Int32) (M_status_z : Int32), fX6_as B_latestFinding N_posts N_neighbours p0 p1 = some (rr, B_latestFinding_z) ∧ fX7_as M_thrown M_status M_posts M_beside p0 p1 = some (rr, M_thrown_z, M_status_z) ∧ Inv B_latestFinding_z B_latestFault S_lanes S_sizes S_rows N_posts N_neighbours R_length R_tape T_size T_rounds K_length K_begun M_status_z M_posts M_rounds M_taped M_latest M_traced M_lane M_many M_item M_beside M_round M_tape M_trace := by
  obtain ⟨n, nb, ⟨hN, eN, eM, h4⟩, hS, hT, hTT, hTr, e1, e2⟩ := id hI
  have hn := hN.1
  have hFX : ∀ i, i < 8 → N_neighbours i = nI (nb i) := fun i hi => (h4 i hi).1
  have hFM : ∀ i, i < 8 → M_beside i = nI (nb i) := fun i hi => (h4 i hi).2
  rcases post_cases p0 hn with ⟨a, ha, rfl, ha1, ha2⟩ | ⟨ha1, ha2⟩
  case inr =>
    refine ⟨-1000001, B_latestFinding, 0, M_status, ?_, ?_, hI⟩
    · unfold fX6_as
      rw [eN, ha1, bd1_i, if_pos rfl]
    · unfold fX7_as
      rw [eM, ha2, bd1_i, if_pos rfl]
  rcases rng_cases p1 5 (by decide) with ⟨t, ht, rfl⟩ | h
  case inr =>
    refine ⟨-1000001, B_latestFinding, 0, M_status, ?_, ?_, hI⟩
    · unfold fX6_as
      rw [eN, ha1, bd1_i, if_neg (by decide)]
      by_cases c0 : p1 < 0
      · rw [if_pos c0]
      · have c5 := h.resolve_left c0
        rw [if_neg c0, if_neg]
        intro q
        rw [i32_le, show (4 : Int32).toInt = 4 from rfl] at q
        rw [i32_le, nI_toInt (by decide)] at c5
        omega
    · unfold fX7_as
      have hin : fX7_in p1.toInt64 0 4 = some 0 := in_k_f (k := 5) h (by decide)
      rw [eM, ha2, bd1_i, if_neg (by decide), hin, bd1_i, if_pos rfl]
  have hin : fX7_in (nI t).toInt64 0 4 = some 1 := by
    rw [z64, show (4 : Int64) = (nI 4).toInt64 from rfl, in_t (nI_pos (by omega)) (nI_nlt (by omega) (by omega))]
  have hX0 : fX6_as B_latestFinding N_posts N_neighbours (nI a) (nI t) = bd1 (fX7_isOf (knd n nb a) (nI t)) (fun r6 => (if r6 = 0 then fX6_as_c41 (nI n) N_neighbours B_latestFinding (nI a) 3 else fX6_as_c41 (nI n) N_neighbours B_latestFinding (nI a) 0)) := by
    unfold fX6_as fX1_isOfKind
    rw [eN, ha1, bd1_i, if_neg (by decide), if_neg (nI_pos (by omega)), if_pos (show nI t ≤ (4 : Int32) from nI_le (show t ≤ 4 by omega) (by decide)), xkind_of hN hFX ha, bd1_i, of_eq _ (knd_in n nb a) ht]
  have hM0 : fX7_as M_thrown M_status M_posts M_beside (nI a) (nI t) = bd1 (fX7_isOf (knd n nb a) (nI t)) (fun r9 => (if r9 = 0 then bd2 (fX7_found 0 3) (fun r12 M_status_13 => some (r12, 0, M_status_13)) else ldx 8 M_beside (nI a) (fun v15 => bd1 (fX7_size v15) (fun r17 => some (r17, 0, 0))))) := by
    unfold fX7_as
    rw [eM, ha2, bd1_i, if_neg (by decide), hin, bd1_i, if_neg (by decide), mkind_of hN hFM ha, bd1_i]
  rw [hX0, hM0]
  obtain ⟨z, hz⟩ : ∃ z, fX7_isOf (knd n nb a) (nI t) = some z := by
    unfold fX7_isOf
    split
    · exact ⟨_, rfl⟩
    · split
      · exact ⟨_, rfl⟩
      · split
        · split
          · exact ⟨_, rfl⟩
          · split <;> exact ⟨_, rfl⟩
        · exact ⟨_, rfl⟩
  rw [hz, bd1_i, bd1_i]
  unfold fX6_as_c41
  by_cases c : z = 0
  · rw [if_pos c, if_pos c, if_neg (by decide)]
    exact ⟨(-1000010 : Int32) - 3, 3, 0, 3, rfl, rfl, ⟨n, nb, ⟨hN, eN, eM, h4⟩, hS, hT, hTT, hTr, rfl, e2⟩⟩
  · rw [if_neg c, if_neg c, if_pos rfl, deg_of hFX (row_lt hN) (by omega), bd1_i, ldx_n (by omega) (by decide), hFM a (by omega), size_of _ (row_lt hN a (by omega)), bd1_i]
    exact ⟨nI (cnt (nb a) 8), 0, 0, 0, rfl, rfl, ⟨n, nb, ⟨hN, eN, eM, h4⟩, hS, hT, hTT, hTr, rfl, e2⟩⟩
/-! count -/
theorem cnt_sh {S_lanes S_sizes : Nat → Int32} {S_rows : Nat → Nat → Int32} {M_lane M_many M_item M_beside : Nat → Int32} (hS : iSh S_lanes S_sizes S_rows M_lane M_many M_item) (a b c : Int32) : ∀ (m k : Nat) (x : Int32), k ≤ 8 → 9 ≤ k + m → ∃ r, fX4_size_c4 S_lanes m x (nI k) = some r ∧ fX7_count_c58 a b c M_lane M_beside m 0 x (nI k) = some (r, 0) := by
  intro m
  induction m with
  | zero => intro k x h1 h2; omega
  | succ m ih =>
    intro k x h1 h2
    rw [fX4_size_c4, fX7_count_c58]
    by_cases q : k = 8
    · subst q
      rw [if_pos (show (8 : Int32) ≤ nI 8 from nI_le (Nat.le_refl 8) (by decide)), if_pos (show (8 : Int32) ≤ nI 8 from nI_le (Nat.le_refl 8) (by decide))]
      exact ⟨x, rfl, rfl⟩
    · have hk : k < 8 := by omega
      obtain ⟨s1, s2, -⟩ := hS k hk
      rw [if_neg (show ¬ (8 : Int32) ≤ nI k from nI_ge hk (by decide)), if_neg (show ¬ (8 : Int32) ≤ nI k from nI_ge hk (by decide)), ldx_n hk (by decide), s1, nI_1]
      unfold fX4_isMissing
      rw [ldx_n hk (by decide)]
      rcases lane_neg s2 with ⟨hm, hm2⟩ | ⟨hm, hm2⟩
      · rw [if_pos hm, bd1_i, if_neg (by decide), if_pos (by rw [hm]; decide)]
        exact ih (k + 1) _ (by omega) (by omega)
      · have hm3 : ¬ S_lanes k < 0 := by rw [i32_lt]; rw [i32_le] at hm2; omega
        rw [if_neg hm, bd1_i, if_pos rfl, if_neg hm3]
        exact ih (k + 1) _ (by omega) (by omega)
theorem cnt_prs {n : Nat} {nb : Nat → Nat} (h : iN n nb) {F G M_lane : Nat → Int32} (hF : ∀ i, i < 8 → F i = nI (nb i)) (hG : ∀ i, i < 8 → G i = nI (nb i)) (b c : Int32) : ∀ (m k : Nat) (x : Int32), k ≤ n → n + 1 ≤ k + m → ∃ r, fX1_pairs_c4 (nI n) F m x (nI k) = some r ∧ fX7_count_c96 (nI n) b c M_lane G m 0 x (nI k) = some (r, 0) := by
  have hn := h.1
  intro m
  induction m with
  | zero => intro k x h1 h2; omega
  | succ m ih =>
    intro k x h1 h2
    rw [fX1_pairs_c4, fX7_count_c96]
    by_cases q : k = n
    · subst q
      rw [if_pos (nI_le (Nat.le_refl k) (by omega)), if_pos (nI_le (Nat.le_refl k) (by omega))]
      exact ⟨x / 2, rfl, rfl⟩
    · rw [if_neg (nI_ge (by omega) (by omega)), if_neg (nI_ge (by omega) (by omega)), deg_of hF (row_lt h) (by omega), bd1_i, ldx_n (by omega) (by decide), hG k (by omega), size_of _ (row_lt h k (by omega)), bd1_i, nI_1]
      exact ih (k + 1) _ (by omega) (by omega)
theorem cnt_knd {n : Nat} {nb : Nat → Nat} (h : iN n nb) {F G M_lane : Nat → Int32} (hF : ∀ i, i < 8 → F i = nI (nb i)) (hG : ∀ i, i < 8 → G i = nI (nb i)) (b c y z : Int32) (hyz : z - 2 = y) : ∀ (m k : Nat) (x : Int32), k ≤ n → n + 1 ≤ k + m → ∃ r, fX1_countOf_c4 (nI n) F m y x (nI k) = some r ∧ fX7_count_c133 (nI n) b c M_lane G m 0 z x (nI k) = some (r, 0) := by
  have hn := h.1
  intro m
  induction m with
  | zero => intro k x h1 h2; omega
  | succ m ih =>
    intro k x h1 h2
    rw [fX1_countOf_c4, fX7_count_c133]
    by_cases q : k = n
    · subst q
      rw [if_pos (nI_le (Nat.le_refl k) (by omega)), if_pos (nI_le (Nat.le_refl k) (by omega))]
      exact ⟨x, rfl, rfl⟩
    · rw [if_neg (nI_ge (by omega) (by omega)), if_neg (nI_ge (by omega) (by omega)), xkind_of h hF (by omega), bd1_i, mkind_of h hG (by omega), bd1_i, nI_1, hyz]
      by_cases r : knd n nb k = y
      · rw [if_pos r, if_pos r]; exact ih (k + 1) _ (by omega) (by omega)
      · rw [if_neg r, if_neg r]; exact ih (k + 1) _ (by omega) (by omega)
theorem st_count {B_latestFinding : Int32} {B_latestFault : Int32} {S_lanes : Nat → Int32} {S_sizes : Nat → Int32} {S_rows : Nat → Nat → Int32} {N_posts : Int32} {N_neighbours : Nat → Int32} {R_length : Int32} {R_tape : Nat → Int32} {T_size : Int32} {T_rounds : Nat → Int32} {K_length : Int32} {K_begun : Nat → Int32} {M_status : Int32} {M_posts : Int32} {M_rounds : Int32} {M_taped : Int32} {M_latest : Int32} {M_traced : Int32} {M_lane : Nat → Int32} {M_many : Nat → Int32} {M_item : Nat → Int32} {M_beside : Nat → Int32} {M_round : Nat → Int32} {M_tape : Nat → Int32} {M_trace : Nat → Int32} (hI : Inv B_latestFinding B_latestFault S_lanes S_sizes S_rows N_posts N_neighbours R_length R_tape T_size T_rounds K_length K_begun M_status M_posts M_rounds M_taped M_latest M_traced M_lane M_many M_item M_beside M_round M_tape M_trace) (p0 : Int32) (M_thrown : Int32) : ∃ (rr : Int32) (M_thrown_z : Int32), fX6_count S_lanes N_posts N_neighbours R_length T_size p0 = some rr ∧ fX7_count M_thrown M_posts M_rounds M_taped M_lane M_beside p0 = some (rr, M_thrown_z) ∧ Inv B_latestFinding B_latestFault S_lanes S_sizes S_rows N_posts N_neighbours R_length R_tape T_size T_rounds K_length K_begun M_status M_posts M_rounds M_taped M_latest M_traced M_lane M_many M_item M_beside M_round M_tape M_trace := by
  obtain ⟨n, nb, ⟨hN, eN, eM, h4⟩, hS, ⟨kt, hkt, eT1, eT2, hT⟩, ⟨kr, hkr, eR1, eR2, hTT⟩, hTr, e1, e2⟩ := id hI
  have hn := hN.1
  have hFX : ∀ i, i < 8 → N_neighbours i = nI (nb i) := fun i hi => (h4 i hi).1
  have hFM : ∀ i, i < 8 → M_beside i = nI (nb i) := fun i hi => (h4 i hi).2
  have hfu : n + 1 ≤ 0 + FU := by unfold FU; omega
  subst eN; subst eM; subst eT1; subst eT2; subst eR1; subst eR2
  have hkd : ∀ y z : Int32, z - 2 = y → ∃ r, fX1_countOf (nI n) N_neighbours y = some r ∧ fX7_count_c133 (nI n) (nI kr) (nI kt) M_lane M_beside FU 0 z 0 0 = some (r, 0) := fun y z hyz =>
    cnt_knd hN hFX hFM (nI kr) (nI kt) y z hyz FU 0 0 (Nat.zero_le _) hfu
  unfold fX6_count fX7_count
  by_cases c0 : p0 = 0
  · rw [if_pos c0, if_pos c0]
    obtain ⟨r, r1, r2⟩ := cnt_sh (M_beside := M_beside) hS (nI n) (nI kr) (nI kt) FU 0 0 (by decide) (by decide)
    refine ⟨r, 0, ?_, r2, hI⟩
    show bd1 (fX4_size_c4 S_lanes FU 0 0) _ = _
    rw [show fX4_size_c4 S_lanes FU 0 0 = some r from r1, bd1_i]
  rw [if_neg c0, if_neg c0]
  by_cases c1 : p0 = 1
  · rw [if_pos c1, if_pos c1]; exact ⟨nI n, 0, rfl, rfl, hI⟩
  rw [if_neg c1, if_neg c1]
  by_cases c2 : p0 = 2
  · rw [if_pos c2, if_pos c2]
    obtain ⟨r, r1, r2⟩ := cnt_prs (M_lane := M_lane) hN hFX hFM (nI kr) (nI kt) FU 0 0 (Nat.zero_le _) hfu
    refine ⟨r, 0, ?_, r2, hI⟩
    show bd1 (fX1_pairs_c4 (nI n) N_neighbours FU 0 0) _ = _
    rw [show fX1_pairs_c4 (nI n) N_neighbours FU 0 0 = some r from r1, bd1_i]
  rw [if_neg c2, if_neg c2]
  by_cases c3 : p0 = 3
  · rw [if_pos c3, if_pos c3]; exact ⟨nI kr, 0, rfl, rfl, hI⟩
  rw [if_neg c3, if_neg c3]
  by_cases c4 : p0 = 4
  · rw [if_pos c4, if_pos c4]
    obtain ⟨r, r1, r2⟩ := hkd 2 p0 (by rw [c4]; decide)
    rw [r1, bd1_i, r2]; exact ⟨r, 0, rfl, rfl, hI⟩
  rw [if_neg c4, if_neg c4]
  by_cases c5 : p0 = 5
  · rw [if_pos c5, if_pos c5]
    obtain ⟨r, r1, r2⟩ := hkd 3 p0 (by rw [c5]; decide)
    rw [r1, bd1_i, r2]; exact ⟨r, 0, rfl, rfl, hI⟩
  rw [if_neg c5, if_neg c5]
  by_cases c6 : p0 = 6
  · rw [if_pos c6, if_pos c6]
    obtain ⟨r, r1, r2⟩ := hkd 4 p0 (by rw [c6]; decide)
    rw [r1, bd1_i, r2]; exact ⟨r, 0, rfl, rfl, hI⟩
  rw [if_neg c6, if_neg c6]
  by_cases c7 : p0 = 7
  · rw [if_pos c7, if_pos c7]; exact ⟨nI kt, 0, rfl, rfl, hI⟩
  rw [if_neg c7, if_neg c7]
  exact ⟨-1000001, 0, rfl, rfl, hI⟩
