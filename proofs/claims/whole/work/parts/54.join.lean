/-! steps: join, part -/
theorem or_f : ∀ s, s < 256 → ∀ k, k < 8 → s.testBit k = false → nI s ||| ((1 : Int32) <<< (nI k &&& 31)) = nI (s ^^^ 2 ^ k) := by decide +kernel
theorem or_t : ∀ s, s < 256 → ∀ k, k < 8 → s.testBit k = true → nI s ||| ((1 : Int32) <<< (nI k &&& 31)) = nI s := by decide +kernel
theorem an_f : ∀ s, s < 256 → ∀ k, k < 8 → s.testBit k = false → nI s &&& (((1 : Int32) <<< (nI k &&& 31)) ^^^ (-1)) = nI s := by decide +kernel
theorem an_t : ∀ s, s < 256 → ∀ k, k < 8 → s.testBit k = true → nI s &&& (((1 : Int32) <<< (nI k &&& 31)) ^^^ (-1)) = nI (s ^^^ 2 ^ k) := by decide +kernel
theorem xr_b : ∀ s, s < 256 → ∀ k, k < 8 → nI s ^^^ ((1 : Int32) <<< (nI k &&& 31)) = nI (s ^^^ 2 ^ k) := by decide +kernel
theorem pow8 {n : Nat} (hn : n ≤ 8) : 2 ^ n ≤ 256 := by
  have := Nat.pow_le_pow_right (n := 2) (by decide) hn
  simpa using this
def tog (nb : Nat → Nat) (a b : Nat) : Nat → Nat := fun i => if i = b then nb b ^^^ 2 ^ a else if i = a then nb a ^^^ 2 ^ b else nb i
theorem tog_bit (nb : Nat → Nat) {a b : Nat} (hab : a ≠ b) (i j : Nat) : (tog nb a b i).testBit j = ((nb i).testBit j ^^ decide ((i = a ∧ j = b) ∨ (i = b ∧ j = a))) := by
  unfold tog
  by_cases h1 : i = b
  · subst h1
    rw [if_pos rfl, Nat.testBit_xor, Nat.testBit_two_pow]
    congr 1
    by_cases h2 : a = j
    · simp [h2, hab]
    · have : ¬ j = a := fun q => h2 q.symm
      simp [h2, this, Ne.symm hab]
  · rw [if_neg h1]
    by_cases h2 : i = a
    · subst h2
      rw [if_pos rfl, Nat.testBit_xor, Nat.testBit_two_pow]
      congr 1
      by_cases h3 : b = j
      · simp [h3]
      · have : ¬ j = b := fun q => h3 q.symm
        simp [h3, this, h1]
    · rw [if_neg h2]; simp [h1, h2]
theorem tog_iN {n : Nat} {nb : Nat → Nat} (h : iN n nb) {a b : Nat} (ha : a < n) (hb : b < n) (hab : a ≠ b) : iN n (tog nb a b) := by
  obtain ⟨hn, h1, h2, h3⟩ := h
  refine ⟨hn, fun i hi => ?_, fun i j hi hj => ?_, fun i hi => ?_⟩
  · unfold tog
    by_cases q1 : i = b
    · rw [if_pos q1]; exact Nat.xor_lt_two_pow (h1 b (by omega)) (Nat.pow_lt_pow_right (by decide) ha)
    · rw [if_neg q1]
      by_cases q2 : i = a
      · rw [if_pos q2]; exact Nat.xor_lt_two_pow (h1 a (by omega)) (Nat.pow_lt_pow_right (by decide) hb)
      · rw [if_neg q2]; exact h1 i hi
  · rw [tog_bit nb hab, tog_bit nb hab, h2 i j hi hj]
    congr 1
    rw [decide_eq_decide]
    constructor
    · rintro (⟨q1, q2⟩ | ⟨q1, q2⟩)
      · exact Or.inr ⟨q2, q1⟩
      · exact Or.inl ⟨q2, q1⟩
    · rintro (⟨q1, q2⟩ | ⟨q1, q2⟩)
      · exact Or.inr ⟨q2, q1⟩
      · exact Or.inl ⟨q2, q1⟩
  · rw [tog_bit nb hab, h3 i hi]
    have : ¬ ((i = a ∧ i = b) ∨ (i = b ∧ i = a)) := by rintro (⟨q1, q2⟩ | ⟨q1, q2⟩) <;> exact hab (by omega)
    simp [this]
theorem tog_row {nb : Nat → Nat} {F : Nat → Int32} (hF : ∀ i, i < 8 → F i = nI (nb i)) {a b : Nat} (hab : a ≠ b) {x y : Int32} (hx : x = nI (nb a ^^^ 2 ^ b)) (hy : y = nI (nb b ^^^ 2 ^ a)) : ∀ i, i < 8 → upd (upd F a x) b y i = nI (tog nb a b i) := by
  intro i hi
  unfold tog
  by_cases q1 : i = b
  · subst q1; rw [upd_eq, if_pos rfl, hy]
  · rw [upd_ne _ _ q1, if_neg q1]
    by_cases q2 : i = a
    · subst q2; rw [upd_eq, if_pos rfl, hx]
    · rw [upd_ne _ _ q2, if_neg q2, hF i hi]
theorem keep_row {nb : Nat → Nat} {F : Nat → Int32} (hF : ∀ i, i < 8 → F i = nI (nb i)) {a b : Nat} (ha : a < 8) (hb : b < 8) {x y : Int32} (hx : x = nI (nb a)) (hy : y = nI (nb b)) : ∀ i, i < 8 → upd (upd F a x) b y i = nI (nb i) := by
  intro i hi
  by_cases q1 : i = b
  · subst q1; rw [upd_eq, hy]
  · rw [upd_ne _ _ q1]
    by_cases q2 : i = a
    · subst q2; rw [upd_eq, hx]
    · rw [upd_ne _ _ q2, hF i hi]
theorem toggle_of {nb : Nat → Nat} {F : Nat → Int32} (hF : ∀ i, i < 8 → F i = nI (nb i)) (hb8 : ∀ i, i < 8 → nb i < 256) {a b : Nat} (ha : a < 8) (hb : b < 8) (hab : a ≠ b) : fX1_toggle F (nI a) (nI b) = some (1, upd (upd F a (nI (nb a ^^^ 2 ^ b))) b (nI (nb b ^^^ 2 ^ a))) := by
  unfold fX1_toggle
  rw [ldx_n ha (by decide), sti_n ha (by decide), ldx_n hb (by decide), sti_n hb (by decide), upd_ne _ _ (Ne.symm hab), hF a ha, hF b hb, xr_b _ (hb8 a ha) _ hb, xr_b _ (hb8 b hb) _ ha]
theorem linked_of {nb : Nat → Nat} {F : Nat → Int32} (hF : ∀ i, i < 8 → F i = nI (nb i)) (hb8 : ∀ i, i < 8 → nb i < 256) {a b : Nat} (ha : a < 8) (hb : b < 8) : fX1_isLinked F (nI a) (nI b) = some (if (nb a).testBit b then 1 else 0) := by
  unfold fX1_isLinked
  rw [ldx_n ha (by decide), hF a ha, bit_of _ (hb8 a ha) _ hb]
  by_cases h : (nb a).testBit b
  · rw [if_pos h, if_pos rfl]
  · rw [if_neg h, if_neg (by decide)]
theorem pair_t {n a b : Nat} (hn : n ≤ 8) (h1 : fX1_hasPost (nI n) (nI a) = some 1) (h2 : fX1_hasPost (nI n) (nI b) = some 1) (ha : a < n) (hb : b < n) (hab : a ≠ b) : fX6_isPair (nI n) (nI a) (nI b) = some 1 := by
  unfold fX6_isPair
  rw [h1, bd1_i, if_neg (by decide), h2, bd1_i, if_neg (by decide), if_neg (fun q => hab ((nI_eq (by omega) (by omega)).mp q))]
theorem st_join {B_latestFinding : Int32} {B_latestFault : Int32} {S_lanes : Nat → Int32} {S_sizes : Nat → Int32} {S_rows : Nat → Nat → Int32} {N_posts : Int32} {N_neighbours : Nat → Int32} {R_length : Int32} {R_tape : Nat → Int32} {T_size : Int32} {T_rounds : Nat → Int32} {K_length : Int32} {K_begun : Nat → Int32} {M_status : Int32} {M_posts : Int32} {M_rounds : Int32} {M_taped : Int32} {M_latest : Int32} {M_traced : Int32} {M_lane : Nat → Int32} {M_many : Nat → Int32} {M_item : Nat → Int32} {M_beside : Nat → Int32} {M_round : Nat → Int32} {M_tape : Nat → Int32} {M_trace : Nat → Int32} (hI : Inv B_latestFinding B_latestFault S_lanes S_sizes S_rows N_posts N_neighbours R_length R_tape T_size T_rounds K_length K_begun M_status M_posts M_rounds M_taped M_latest M_traced M_lane M_many M_item M_beside M_round M_tape M_trace) (p0 : Int32) (p1 : Int32) (M_thrown : Int32) : ∃ (rr : Int32) (N_neighbours_z : Nat → Int32) (M_thrown_z : Int32) (M_beside_z : Nat → Int32), fX6_join N_posts N_neighbours p0 p1 = some (rr, N_neighbours_z) ∧ fX7_join M_thrown M_posts M_beside p0 p1 = some (rr, M_thrown_z, M_beside_z) ∧ Inv B_latestFinding B_latestFault S_lanes S_sizes S_rows N_posts N_neighbours_z R_length R_tape T_size T_rounds K_length K_begun M_status M_posts M_rounds M_taped M_latest M_traced M_lane M_many M_item M_beside_z M_round M_tape M_trace := by
  obtain ⟨n, nb, ⟨hN, eN, eM, h4⟩, hS, hT, hTT, hTr, e1, e2⟩ := id hI
  obtain ⟨hn, g1, g2, g3⟩ := id hN
  have hb8 : ∀ i, i < 8 → nb i < 256 := fun i hi => Nat.lt_of_lt_of_le (g1 i hi) (pow8 hn)
  rcases post_cases p0 hn with ⟨a, ha, rfl, ha1, ha2⟩ | ⟨ha1, ha2⟩
  case inr =>
    refine ⟨-1000001, N_neighbours, 0, M_beside, ?_, ?_, hI⟩
    · unfold fX6_join fX6_isPair
      rw [eN, ha1, bd1_i, if_pos rfl, bd1_i, if_pos rfl]
    · unfold fX7_join
      rw [eM, ha2, bd1_i, if_pos rfl]
  rcases post_cases p1 hn with ⟨b, hb, rfl, hb1, hb2⟩ | ⟨hb1, hb2⟩
  case inr =>
    refine ⟨-1000001, N_neighbours, 0, M_beside, ?_, ?_, hI⟩
    · unfold fX6_join fX6_isPair
      rw [eN, ha1, bd1_i, if_neg (by decide), hb1, bd1_i, if_pos rfl, bd1_i, if_pos rfl]
    · unfold fX7_join
      rw [eM, ha2, bd1_i, if_neg (by decide), hb2, bd1_i, if_pos rfl]
  by_cases hab : a = b
  · subst hab
    refine ⟨-1000001, N_neighbours, 0, M_beside, ?_, ?_, hI⟩
    · unfold fX6_join fX6_isPair
      rw [eN, ha1, bd1_i, if_neg (by decide), bd1_i, if_neg (by decide), if_pos rfl, bd1_i, if_pos rfl]
    · unfold fX7_join
      rw [eM, ha2, bd1_i, if_neg (by decide), bd1_i, if_neg (by decide), if_pos rfl]
  have hFX : ∀ i, i < 8 → N_neighbours i = nI (nb i) := fun i hi => (h4 i hi).1
  have hFM : ∀ i, i < 8 → M_beside i = nI (nb i) := fun i hi => (h4 i hi).2
  have hne : ¬ nI a = nI b := fun q => hab ((nI_eq (by omega) (by omega)).mp q)
  have hsym : (nb b).testBit a = (nb a).testBit b := g2 b a (by omega) (by omega)
  have hM : ∀ t : Int32, fX7_join_c48 (nI n) 0 M_beside (nI a) (nI b) t = (if t = 0 then some (1, 0, upd (upd M_beside a (nI (nb a) ||| ((1 : Int32) <<< (nI b &&& 31)))) b (nI (nb b) ||| ((1 : Int32) <<< (nI a &&& 31)))) else some (0, 0, upd (upd M_beside a (nI (nb a) ||| ((1 : Int32) <<< (nI b &&& 31)))) b (nI (nb b) ||| ((1 : Int32) <<< (nI a &&& 31))))) := by
    intro t
    unfold fX7_join_c48
    rw [ldx_n (by omega) (by decide), sti_n (by omega) (by decide), ldx_n (by omega) (by decide), sti_n (by omega) (by decide), upd_ne _ _ (Ne.symm hab), hFM a (by omega), hFM b (by omega)]
  have hX0 : fX6_join N_posts N_neighbours (nI a) (nI b) = bd1 (some (if (nb a).testBit b then (1 : Int32) else 0)) (fun r4 => (if r4 = 0 then bd2 (fX1_toggle N_neighbours (nI a) (nI b)) (fun r7 N_neighbours_8 => some (r7, N_neighbours_8)) else some (0, N_neighbours))) := by
    unfold fX6_join
    rw [eN, pair_t hn ha1 hb1 ha hb hab, bd1_i, if_neg (by decide), linked_of hFX hb8 (by omega) (by omega)]
  have hM0 : fX7_join M_thrown M_posts M_beside (nI a) (nI b) = (if (if (nb a).testBit b then (1 : Int32) else 0) = 1 then fX7_join_c48 (nI n) 0 M_beside (nI a) (nI b) 1 else fX7_join_c48 (nI n) 0 M_beside (nI a) (nI b) 0) := by
    unfold fX7_join
    rw [eM, ha2, bd1_i, if_neg (by decide), hb2, bd1_i, if_neg (by decide), if_neg hne, ldx_n (by omega) (by decide), hFM a (by omega), bit_of _ (hb8 a (by omega)) _ (by omega)]
  rw [hX0, hM0, hM, hM]
  by_cases hl : (nb a).testBit b = true
  · rw [if_pos hl, bd1_i, if_neg (by decide), if_pos rfl, if_neg (by decide), or_t _ (hb8 a (by omega)) _ (by omega) hl, or_t _ (hb8 b (by omega)) _ (by omega) (hsym.trans hl)]
    refine ⟨0, N_neighbours, 0, _, rfl, rfl, ⟨n, nb, ⟨hN, eN, eM, fun i hi => ⟨hFX i hi, keep_row hFM (by omega) (by omega) rfl rfl i hi⟩⟩, hS, hT, hTT, hTr, e1, e2⟩⟩
  · have hf : (nb a).testBit b = false := by simpa using hl
    rw [if_neg hl, bd1_i, if_pos rfl, if_neg (by decide), if_pos rfl, or_f _ (hb8 a (by omega)) _ (by omega) hf, or_f _ (hb8 b (by omega)) _ (by omega) (hsym.trans hf), toggle_of hFX hb8 (by omega) (by omega) hab, bd2_i]
    exact ⟨1, _, 0, _, rfl, rfl, ⟨n, tog nb a b, ⟨tog_iN hN ha hb hab, eN, eM, fun i hi => ⟨tog_row hFX hab rfl rfl i hi, tog_row hFM hab rfl rfl i hi⟩⟩, hS, hT, hTT, hTr, e1, e2⟩⟩
theorem st_part {B_latestFinding : Int32} {B_latestFault : Int32} {S_lanes : Nat → Int32} {S_sizes : Nat → Int32} {S_rows : Nat → Nat → Int32} {N_posts : Int32} {N_neighbours : Nat → Int32} {R_length : Int32} {R_tape : Nat → Int32} {T_size : Int32} {T_rounds : Nat → Int32} {K_length : Int32} {K_begun : Nat → Int32} {M_status : Int32} {M_posts : Int32} {M_rounds : Int32} {M_taped : Int32} {M_latest : Int32} {M_traced : Int32} {M_lane : Nat → Int32} {M_many : Nat → Int32} {M_item : Nat → Int32} {M_beside : Nat → Int32} {M_round : Nat → Int32} {M_tape : Nat → Int32} {M_trace : Nat → Int32} (hI : Inv B_latestFinding B_latestFault S_lanes S_sizes S_rows N_posts N_neighbours R_length R_tape T_size T_rounds K_length K_begun M_status M_posts M_rounds M_taped M_latest M_traced M_lane M_many M_item M_beside M_round M_tape M_trace) (p0 : Int32) (p1 : Int32) (M_thrown : Int32) : ∃ (rr : Int32) (N_neighbours_z : Nat → Int32) (M_thrown_z : Int32) (M_beside_z : Nat → Int32), fX6_part N_posts N_neighbours p0 p1 = some (rr, N_neighbours_z) ∧ fX7_part M_thrown M_posts M_beside p0 p1 = some (rr, M_thrown_z, M_beside_z) ∧ Inv B_latestFinding B_latestFault S_lanes S_sizes S_rows N_posts N_neighbours_z R_length R_tape T_size T_rounds K_length K_begun M_status M_posts M_rounds M_taped M_latest M_traced M_lane M_many M_item M_beside_z M_round M_tape M_trace := by
  obtain ⟨n, nb, ⟨hN, eN, eM, h4⟩, hS, hT, hTT, hTr, e1, e2⟩ := id hI
  obtain ⟨hn, g1, g2, g3⟩ := id hN
  have hb8 : ∀ i, i < 8 → nb i < 256 := fun i hi => Nat.lt_of_lt_of_le (g1 i hi) (pow8 hn)
  rcases post_cases p0 hn with ⟨a, ha, rfl, ha1, ha2⟩ | ⟨ha1, ha2⟩
  case inr =>
    refine ⟨-1000001, N_neighbours, 0, M_beside, ?_, ?_, hI⟩
    · unfold fX6_part fX6_isPair
      rw [eN, ha1, bd1_i, if_pos rfl, bd1_i, if_pos rfl]
    · unfold fX7_part
      rw [eM, ha2, bd1_i, if_pos rfl]
  rcases post_cases p1 hn with ⟨b, hb, rfl, hb1, hb2⟩ | ⟨hb1, hb2⟩
  case inr =>
    refine ⟨-1000001, N_neighbours, 0, M_beside, ?_, ?_, hI⟩
    · unfold fX6_part fX6_isPair
      rw [eN, ha1, bd1_i, if_neg (by decide), hb1, bd1_i, if_pos rfl, bd1_i, if_pos rfl]
    · unfold fX7_part
      rw [eM, ha2, bd1_i, if_neg (by decide), hb2, bd1_i, if_pos rfl]
  by_cases hab : a = b
  · subst hab
    refine ⟨-1000001, N_neighbours, 0, M_beside, ?_, ?_, hI⟩
    · unfold fX6_part fX6_isPair
      rw [eN, ha1, bd1_i, if_neg (by decide), bd1_i, if_neg (by decide), if_pos rfl, bd1_i, if_pos rfl]
    · unfold fX7_part
      rw [eM, ha2, bd1_i, if_neg (by decide), bd1_i, if_neg (by decide), if_pos rfl]
  have hFX : ∀ i, i < 8 → N_neighbours i = nI (nb i) := fun i hi => (h4 i hi).1
  have hFM : ∀ i, i < 8 → M_beside i = nI (nb i) := fun i hi => (h4 i hi).2
  have hne : ¬ nI a = nI b := fun q => hab ((nI_eq (by omega) (by omega)).mp q)
  have hsym : (nb b).testBit a = (nb a).testBit b := g2 b a (by omega) (by omega)
  have hM : ∀ t : Int32, fX7_part_c48 (nI n) 0 M_beside (nI a) (nI b) t = (if t = 0 then some (0, 0, upd (upd M_beside a (nI (nb a) &&& (((1 : Int32) <<< (nI b &&& 31)) ^^^ (-1)))) b (nI (nb b) &&& (((1 : Int32) <<< (nI a &&& 31)) ^^^ (-1)))) else some (1, 0, upd (upd M_beside a (nI (nb a) &&& (((1 : Int32) <<< (nI b &&& 31)) ^^^ (-1)))) b (nI (nb b) &&& (((1 : Int32) <<< (nI a &&& 31)) ^^^ (-1))))) := by
    intro t
    unfold fX7_part_c48
    rw [ldx_n (by omega) (by decide), sti_n (by omega) (by decide), ldx_n (by omega) (by decide), sti_n (by omega) (by decide), upd_ne _ _ (Ne.symm hab), hFM a (by omega), hFM b (by omega)]
  have hX0 : fX6_part N_posts N_neighbours (nI a) (nI b) = bd1 (some (if (nb a).testBit b then (1 : Int32) else 0)) (fun r4 => (if r4 = 0 then some (0, N_neighbours) else bd2 (fX1_toggle N_neighbours (nI a) (nI b)) (fun r7 N_neighbours_8 => some (r7, N_neighbours_8)))) := by
    unfold fX6_part
    rw [eN, pair_t hn ha1 hb1 ha hb hab, bd1_i, if_neg (by decide), linked_of hFX hb8 (by omega) (by omega)]
  have hM0 : fX7_part M_thrown M_posts M_beside (nI a) (nI b) = (if (if (nb a).testBit b then (1 : Int32) else 0) = 1 then fX7_part_c48 (nI n) 0 M_beside (nI a) (nI b) 1 else fX7_part_c48 (nI n) 0 M_beside (nI a) (nI b) 0) := by
    unfold fX7_part
    rw [eM, ha2, bd1_i, if_neg (by decide), hb2, bd1_i, if_neg (by decide), if_neg hne, ldx_n (by omega) (by decide), hFM a (by omega), bit_of _ (hb8 a (by omega)) _ (by omega)]
  rw [hX0, hM0, hM, hM]
  by_cases hl : (nb a).testBit b = true
  · rw [if_pos hl, bd1_i, if_neg (by decide), if_pos rfl, if_neg (by decide), an_t _ (hb8 a (by omega)) _ (by omega) hl, an_t _ (hb8 b (by omega)) _ (by omega) (hsym.trans hl), toggle_of hFX hb8 (by omega) (by omega) hab, bd2_i]
    exact ⟨1, _, 0, _, rfl, rfl, ⟨n, tog nb a b, ⟨tog_iN hN ha hb hab, eN, eM, fun i hi => ⟨tog_row hFX hab rfl rfl i hi, tog_row hFM hab rfl rfl i hi⟩⟩, hS, hT, hTT, hTr, e1, e2⟩⟩
  · have hf : (nb a).testBit b = false := by simpa using hl
    rw [if_neg hl, bd1_i, if_pos rfl, if_neg (by decide), if_pos rfl, an_f _ (hb8 a (by omega)) _ (by omega) hf, an_f _ (hb8 b (by omega)) _ (by omega) (hsym.trans hf)]
    exact ⟨0, N_neighbours, 0, _, rfl, rfl, ⟨n, nb, ⟨hN, eN, eM, fun i hi => ⟨hFX i hi, keep_row hFM (by omega) (by omega) rfl rfl i hi⟩⟩, hS, hT, hTT, hTr, e1, e2⟩⟩
