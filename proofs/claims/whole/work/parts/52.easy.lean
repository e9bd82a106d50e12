/-! steps: fault, status, trace, post, drop, sheet, set -/
theorem st_fault {B_latestFinding : Int32} {B_latestFault : Int32} {S_lanes : Nat → Int32} {S_sizes : Nat → Int32} {S_rows : Nat → Nat → Int32} {N_posts : Int32} {N_neighbours : Nat → Int32} {R_length : Int32} {R_tape : Nat → Int32} {T_size : Int32} {T_rounds : Nat → Int32} {K_length : Int32} {K_begun : Nat → Int32} {M_status : Int32} {M_posts : Int32} {M_rounds : Int32} {M_taped : Int32} {M_latest : Int32} {M_traced : Int32} {M_lane : Nat → Int32} {M_many : Nat → Int32} {M_item : Nat → Int32} {M_beside : Nat → Int32} {M_round : Nat → Int32} {M_tape : Nat → Int32} {M_trace : Nat → Int32} (hI : Inv B_latestFinding B_latestFault S_lanes S_sizes S_rows N_posts N_neighbours R_length R_tape T_size T_rounds K_length K_begun M_status M_posts M_rounds M_taped M_latest M_traced M_lane M_many M_item M_beside M_round M_tape M_trace) (M_thrown : Int32) : ∃ (rr : Int32) (M_thrown_z : Int32), fX6_fault B_latestFault = some rr ∧ fX7_fault M_thrown M_latest = some (rr, M_thrown_z) ∧ Inv B_latestFinding B_latestFault S_lanes S_sizes S_rows N_posts N_neighbours R_length R_tape T_size T_rounds K_length K_begun M_status M_posts M_rounds M_taped M_latest M_traced M_lane M_many M_item M_beside M_round M_tape M_trace := by
  refine ⟨B_latestFault, 0, rfl, ?_, hI⟩
  obtain ⟨n, nb, hN, hS, hT, hTT, hTr, e1, e2⟩ := hI
  rw [e2]; rfl
theorem st_status {B_latestFinding : Int32} {B_latestFault : Int32} {S_lanes : Nat → Int32} {S_sizes : Nat → Int32} {S_rows : Nat → Nat → Int32} {N_posts : Int32} {N_neighbours : Nat → Int32} {R_length : Int32} {R_tape : Nat → Int32} {T_size : Int32} {T_rounds : Nat → Int32} {K_length : Int32} {K_begun : Nat → Int32} {M_status : Int32} {M_posts : Int32} {M_rounds : Int32} {M_taped : Int32} {M_latest : Int32} {M_traced : Int32} {M_lane : Nat → Int32} {M_many : Nat → Int32} {M_item : Nat → Int32} {M_beside : Nat → Int32} {M_round : Nat → Int32} {M_tape : Nat → Int32} {M_trace : Nat → Int32} (hI : Inv B_latestFinding B_latestFault S_lanes S_sizes S_rows N_posts N_neighbours R_length R_tape T_size T_rounds K_length K_begun M_status M_posts M_rounds M_taped M_latest M_traced M_lane M_many M_item M_beside M_round M_tape M_trace) (M_thrown : Int32) : ∃ (rr : Int32) (M_thrown_z : Int32), fX6_status B_latestFinding = some rr ∧ fX7_status M_thrown M_status = some (rr, M_thrown_z) ∧ Inv B_latestFinding B_latestFault S_lanes S_sizes S_rows N_posts N_neighbours R_length R_tape T_size T_rounds K_length K_begun M_status M_posts M_rounds M_taped M_latest M_traced M_lane M_many M_item M_beside M_round M_tape M_trace := by
  refine ⟨B_latestFinding, 0, rfl, ?_, hI⟩
  obtain ⟨n, nb, hN, hS, hT, hTT, hTr, e1, e2⟩ := hI
  rw [e1]; rfl
theorem z64 : (0 : Int64) = (0 : Int32).toInt64 := rfl
theorem nI_sub1 {k : Nat} (hk : k < 2 ^ 30) : (nI k - 1).toInt = (k : Int) - 1 := pk_sub_toInt (a := k) (b := 1) hk (by decide)
/-- 0 .. k - 1, as the reference asks it -/
theorem in_k_t {j k : Nat} (h : j < k) (hk : k < 2 ^ 30) : fX7_in (nI j).toInt64 0 ((nI k - 1).toInt64) = some 1 := by
  rw [z64, in_t (nI_pos (by omega)) (by rw [i32_lt, nI_sub1 hk, nI_toInt (by omega)]; omega)]
theorem in_k_f {x : Int32} {k : Nat} (h : x < 0 ∨ nI k ≤ x) (hk : k < 2 ^ 30) : fX7_in x.toInt64 0 ((nI k - 1).toInt64) = some 0 := by
  rw [z64, in_f]
  rcases h with h | h
  · exact Or.inl h
  · right
    rw [i32_le, nI_toInt (by omega)] at h
    rw [i32_lt, nI_sub1 hk]
    omega
theorem st_trace {B_latestFinding : Int32} {B_latestFault : Int32} {S_lanes : Nat → Int32} {S_sizes : Nat → Int32} {S_rows : Nat → Nat → Int32} {N_posts : Int32} {N_neighbours : Nat → Int32} {R_length : Int32} {R_tape : Nat → Int32} {T_size : Int32} {T_rounds : Nat → Int32} {K_length : Int32} {K_begun : Nat → Int32} {M_status : Int32} {M_posts : Int32} {M_rounds : Int32} {M_taped : Int32} {M_latest : Int32} {M_traced : Int32} {M_lane : Nat → Int32} {M_many : Nat → Int32} {M_item : Nat → Int32} {M_beside : Nat → Int32} {M_round : Nat → Int32} {M_tape : Nat → Int32} {M_trace : Nat → Int32} (hI : Inv B_latestFinding B_latestFault S_lanes S_sizes S_rows N_posts N_neighbours R_length R_tape T_size T_rounds K_length K_begun M_status M_posts M_rounds M_taped M_latest M_traced M_lane M_many M_item M_beside M_round M_tape M_trace) (p0 : Int32) (M_thrown : Int32) : ∃ (rr : Int32) (M_thrown_z : Int32), fX6_trace K_length K_begun p0 = some rr ∧ fX7_trace M_thrown M_traced M_trace p0 = some (rr, M_thrown_z) ∧ Inv B_latestFinding B_latestFault S_lanes S_sizes S_rows N_posts N_neighbours R_length R_tape T_size T_rounds K_length K_begun M_status M_posts M_rounds M_taped M_latest M_traced M_lane M_many M_item M_beside M_round M_tape M_trace := by
  obtain ⟨n, nb, hN, hS, hT, hTT, ⟨k, hk, eK, eM, hh⟩, e1, e2⟩ := id hI
  rcases rng_cases p0 k (by omega) with ⟨j, hj, rfl⟩ | h
  · refine ⟨K_begun j, 0, ?_, ?_, hI⟩
    · unfold fX6_trace fX0_begunBody
      rw [eK, if_neg (nI_pos (by omega)), if_neg (nI_ge hj (by omega)), ldx_n (by omega) (by decide), bd1_i]
    · unfold fX7_trace
      rw [eM, in_k_t hj (by omega), bd1_i, if_neg (by decide), ldx_n (by omega) (by decide), hh j hj]
  · refine ⟨-1000000, 0, ?_, ?_, hI⟩
    · unfold fX6_trace fX0_begunBody
      rw [eK]
      rcases h with h | h
      · rw [if_pos h, bd1_i]
      · by_cases h0 : p0 < 0
        · rw [if_pos h0, bd1_i]
        · rw [if_neg h0, if_pos h, bd1_i]
    · unfold fX7_trace
      rw [eM, in_k_f h (by omega), bd1_i, if_pos rfl]
theorem st_post {B_latestFinding : Int32} {B_latestFault : Int32} {S_lanes : Nat → Int32} {S_sizes : Nat → Int32} {S_rows : Nat → Nat → Int32} {N_posts : Int32} {N_neighbours : Nat → Int32} {R_length : Int32} {R_tape : Nat → Int32} {T_size : Int32} {T_rounds : Nat → Int32} {K_length : Int32} {K_begun : Nat → Int32} {M_status : Int32} {M_posts : Int32} {M_rounds : Int32} {M_taped : Int32} {M_latest : Int32} {M_traced : Int32} {M_lane : Nat → Int32} {M_many : Nat → Int32} {M_item : Nat → Int32} {M_beside : Nat → Int32} {M_round : Nat → Int32} {M_tape : Nat → Int32} {M_trace : Nat → Int32} (hI : Inv B_latestFinding B_latestFault S_lanes S_sizes S_rows N_posts N_neighbours R_length R_tape T_size T_rounds K_length K_begun M_status M_posts M_rounds M_taped M_latest M_traced M_lane M_many M_item M_beside M_round M_tape M_trace) (M_thrown : Int32) : ∃ (rr : Int32) (N_posts_z : Int32) (M_thrown_z : Int32) (M_posts_z : Int32), fX6_post N_posts = some (rr, N_posts_z) ∧ fX7_post M_thrown M_posts = some (rr, M_thrown_z, M_posts_z) ∧ Inv B_latestFinding B_latestFault S_lanes S_sizes S_rows N_posts_z N_neighbours R_length R_tape T_size T_rounds K_length K_begun M_status M_posts_z M_rounds M_taped M_latest M_traced M_lane M_many M_item M_beside M_round M_tape M_trace := by
  obtain ⟨n, nb, ⟨⟨hn, h1, h2, h3⟩, eN, eM, h4⟩, hS, hT, ⟨k, hk, eT, eR, hh⟩, hTr, e1, e2⟩ := id hI
  by_cases h8 : n = 8
  · subst h8
    refine ⟨-1000003, N_posts, 0, M_posts, ?_, ?_, hI⟩
    · unfold fX6_post fX1_isFull
      rw [eN, if_neg (show ¬ nI 8 < (8 : Int32) from nI_nlt (by decide) (by decide)), bd1_i, if_neg (by decide)]
    · unfold fX7_post
      rw [eM, if_pos (show nI 8 = (8 : Int32) from rfl)]
  · refine ⟨(nI n + 1) - 1, nI (n + 1), 0, nI (n + 1), ?_, ?_, ?_⟩
    · unfold fX6_post fX1_isFull fX1_add
      rw [eN, if_pos (show nI n < (8 : Int32) from nI_lt (show n < 8 by omega) (by decide)), bd1_i, if_pos rfl, bd2_i, nI_1]
    · unfold fX7_post
      rw [eM, if_neg (show ¬ nI n = (8 : Int32) from fun q => h8 ((nI_eq (a := n) (b := 8) (by omega) (by decide)).mp q)), nI_1]
    · have hp : 2 ^ n ≤ 2 ^ (n + 1) := Nat.pow_le_pow_right (by decide) (by omega)
      exact ⟨n + 1, nb, ⟨⟨by omega, fun i hi => Nat.lt_of_lt_of_le (h1 i hi) hp, h2, h3⟩, rfl, rfl, h4⟩, hS, hT, ⟨k, hk, eT, eR, fun i hi => ⟨(hh i hi).1, (hh i hi).2.elim Or.inl (fun ⟨c, hc, ec⟩ => Or.inr ⟨c, Nat.lt_of_lt_of_le hc hp, ec⟩)⟩⟩, hTr, e1, e2⟩
theorem upd_eq (f : Nat → Int32) (k : Nat) (x : Int32) : upd f k x k = x := by simp [upd]
theorem upd_ne (f : Nat → Int32) {k j : Nat} (x : Int32) (h : j ≠ k) : upd f k x j = f j := by simp [upd, h]
theorem lane_neg {v : Int32} (h : v = -1 ∨ v = 0 ∨ v = 1 ∨ v = 2) : (v = -1 ∧ ¬ (0 : Int32) ≤ v) ∨ (¬ v = -1 ∧ (0 : Int32) ≤ v) := by
  rcases h with rfl | rfl | rfl | rfl
  · exact Or.inl ⟨rfl, by decide⟩
  · exact Or.inr ⟨by decide, by decide⟩
  · exact Or.inr ⟨by decide, by decide⟩
  · exact Or.inr ⟨by decide, by decide⟩
theorem st_drop {B_latestFinding : Int32} {B_latestFault : Int32} {S_lanes : Nat → Int32} {S_sizes : Nat → Int32} {S_rows : Nat → Nat → Int32} {N_posts : Int32} {N_neighbours : Nat → Int32} {R_length : Int32} {R_tape : Nat → Int32} {T_size : Int32} {T_rounds : Nat → Int32} {K_length : Int32} {K_begun : Nat → Int32} {M_status : Int32} {M_posts : Int32} {M_rounds : Int32} {M_taped : Int32} {M_latest : Int32} {M_traced : Int32} {M_lane : Nat → Int32} {M_many : Nat → Int32} {M_item : Nat → Int32} {M_beside : Nat → Int32} {M_round : Nat → Int32} {M_tape : Nat → Int32} {M_trace : Nat → Int32} (hI : Inv B_latestFinding B_latestFault S_lanes S_sizes S_rows N_posts N_neighbours R_length R_tape T_size T_rounds K_length K_begun M_status M_posts M_rounds M_taped M_latest M_traced M_lane M_many M_item M_beside M_round M_tape M_trace) (p0 : Int32) (M_thrown : Int32) : ∃ (rr : Int32) (B_latestFinding_z : Int32) (S_lanes_z : Nat → Int32) (M_thrown_z : Int32) (M_status_z : Int32) (M_lane_z : Nat → Int32), fX6_drop B_latestFinding S_lanes S_sizes p0 = some (rr, B_latestFinding_z, S_lanes_z) ∧ fX7_drop M_thrown M_status M_lane M_many p0 = some (rr, M_thrown_z, M_status_z, M_lane_z) ∧ Inv B_latestFinding_z B_latestFault S_lanes_z S_sizes S_rows N_posts N_neighbours R_length R_tape T_size T_rounds K_length K_begun M_status_z M_posts M_rounds M_taped M_latest M_traced M_lane_z M_many M_item M_beside M_round M_tape M_trace := by
  obtain ⟨n, nb, hN, hS, hT, hTT, hTr, e1, e2⟩ := id hI
  rcases sheet_cases p0 with ⟨j, hj, rfl, ha, hb⟩ | ⟨ha, hb⟩
  · obtain ⟨s1, s2, s3, ⟨kk, hkk, ekk⟩, s5⟩ := hS j hj
    rcases lane_neg s2 with ⟨hm, hm2⟩ | ⟨hm, hm2⟩
    · refine ⟨(-1000010 : Int32) - 1, 1, S_lanes, 0, 1, M_lane, ?_, ?_, ⟨n, nb, hN, hS, hT, hTT, hTr, rfl, e2⟩⟩
      · unfold fX6_drop fX4_isMissing fX6_drop_c27
        rw [ha, bd1_i, if_neg (by decide), ldx_n hj (by decide), if_pos hm, bd1_i, if_neg (by decide), if_neg (by decide)]
      · unfold fX7_drop fX7_found
        rw [hb, bd1_i, if_neg (by decide), ldx_n hj (by decide), s1, if_neg hm2, bd2_i]
    · refine ⟨S_sizes j, 0, upd S_lanes j (-1), 0, 0, upd M_lane j (-1), ?_, ?_, ⟨n, nb, hN, ?_, hT, hTT, hTr, rfl, e2⟩⟩
      · unfold fX6_drop fX4_isMissing fX6_drop_c27 fX4_remove
        rw [ha, bd1_i, if_neg (by decide), ldx_n hj (by decide), if_neg hm, bd1_i, if_pos rfl, if_pos rfl, sti_n hj (by decide), ldx_n hj (by decide), bd2_i]
      · unfold fX7_drop
        rw [hb, bd1_i, if_neg (by decide), ldx_n hj (by decide), s1, if_pos hm2, sti_n hj (by decide), ldx_n hj (by decide), s3]
      · intro i hi
        obtain ⟨q1, q2, q3, q4, q5⟩ := hS i hi
        by_cases hij : i = j
        · subst hij
          rw [upd_eq, upd_eq]
          exact ⟨rfl, Or.inl rfl, q3, q4, q5⟩
        · rw [upd_ne _ _ hij, upd_ne _ _ hij]
          exact ⟨q1, q2, q3, q4, q5⟩
  · refine ⟨-1000001, B_latestFinding, S_lanes, 0, M_status, M_lane, ?_, ?_, hI⟩
    · unfold fX6_drop
      rw [ha, bd1_i, if_pos rfl]
    · unfold fX7_drop
      rw [hb, bd1_i, if_pos rfl]
/-- the reference clears a sheet's items, place by place -/
def clr40 (f : Nat → Int32) (j i : Nat) : Nat → Int32 := fun q => if 40 * j ≤ q ∧ q < 40 * j + i then 0 else f q
theorem clr40_s (f : Nat → Int32) (j i : Nat) : upd (clr40 f j i) (40 * j + i) 0 = clr40 f j (i + 1) := by
  funext q
  unfold upd clr40
  by_cases h : q = 40 * j + i
  · subst h; rw [if_pos rfl, if_pos ⟨by omega, by omega⟩]
  · rw [if_neg h]
    by_cases h2 : 40 * j ≤ q ∧ q < 40 * j + i
    · rw [if_pos h2, if_pos ⟨h2.1, by omega⟩]
    · rw [if_neg h2, if_neg (fun q9 => h2 ⟨q9.1, by omega⟩)]
theorem nI_mul (a b : Nat) : nI a * nI b = nI (a * b) := pk_mul a b
theorem pl40 (j i : Nat) : (40 : Int32) * nI j + nI i = nI (40 * j + i) := by
  rw [show (40 : Int32) = nI 40 from rfl, nI_mul, nI_add]
theorem sheet_loop (a b : Int32) (g1 g2 f : Nat → Int32) (j : Nat) (hj : j < 8) (x3 : Int32) : ∀ (n i : Nat), i ≤ 40 → 41 ≤ i + n → fX7_sheet_c65 n a b g1 g2 (clr40 f j i) (nI j) x3 (nI i) = some (x3, a, b, g1, g2, clr40 f j 40) := by
  intro n
  induction n with
  | zero => intro i h1 h2; omega
  | succ n ih =>
    intro i h1 h2
    rw [fX7_sheet_c65]
    by_cases h : i = 40
    · subst h
      rw [if_pos (show (40 : Int32) ≤ nI 40 from nI_le (Nat.le_refl 40) (by decide))]
    · rw [if_neg (show ¬ (40 : Int32) ≤ nI i from nI_ge (show i < 40 by omega) (by decide)), pl40, sti_n (by omega) (by decide), clr40_s, nI_1]
      exact ih (i + 1) (by omega) (by omega)
theorem st_sheet {B_latestFinding : Int32} {B_latestFault : Int32} {S_lanes : Nat → Int32} {S_sizes : Nat → Int32} {S_rows : Nat → Nat → Int32} {N_posts : Int32} {N_neighbours : Nat → Int32} {R_length : Int32} {R_tape : Nat → Int32} {T_size : Int32} {T_rounds : Nat → Int32} {K_length : Int32} {K_begun : Nat → Int32} {M_status : Int32} {M_posts : Int32} {M_rounds : Int32} {M_taped : Int32} {M_latest : Int32} {M_traced : Int32} {M_lane : Nat → Int32} {M_many : Nat → Int32} {M_item : Nat → Int32} {M_beside : Nat → Int32} {M_round : Nat → Int32} {M_tape : Nat → Int32} {M_trace : Nat → Int32} (hI : Inv B_latestFinding B_latestFault S_lanes S_sizes S_rows N_posts N_neighbours R_length R_tape T_size T_rounds K_length K_begun M_status M_posts M_rounds M_taped M_latest M_traced M_lane M_many M_item M_beside M_round M_tape M_trace) (p0 : Int32) (p1 : Int32) (p2 : Int32) (M_thrown : Int32) : ∃ (rr : Int32) (B_latestFinding_z : Int32) (S_lanes_z : Nat → Int32) (S_sizes_z : Nat → Int32) (S_rows_z : Nat → Nat → Int32) (M_thrown_z : Int32) (M_status_z : Int32) (M_lane_z : Nat → Int32) (M_many_z : Nat → Int32) (M_item_z : Nat → Int32), fX6_sheet B_latestFinding S_lanes S_sizes S_rows p0 p1 p2 = some (rr, B_latestFinding_z, S_lanes_z, S_sizes_z, S_rows_z) ∧ fX7_sheet M_thrown M_status M_lane M_many M_item p0 p1 p2 = some (rr, M_thrown_z, M_status_z, M_lane_z, M_many_z, M_item_z) ∧ Inv B_latestFinding_z B_latestFault S_lanes_z S_sizes_z S_rows_z N_posts N_neighbours R_length R_tape T_size T_rounds K_length K_begun M_status_z M_posts M_rounds M_taped M_latest M_traced M_lane_z M_many_z M_item_z M_beside M_round M_tape M_trace := by
  obtain ⟨n, nb, hN, hS, hT, hTT, hTr, e1, e2⟩ := id hI
  rcases sheet_cases p0 with ⟨j, hj, rfl, ha, hb⟩ | ⟨ha, hb⟩
  · rcases rng_cases p1 3 (by decide) with ⟨ln, hln, rfl⟩ | h
    · by_cases h40 : p2 ≤ 40
      · by_cases h0 : (0 : Int32) ≤ p2
        · obtain ⟨k, hk, rfl⟩ : ∃ k : Nat, k ≤ 40 ∧ p2 = nI k := nI_of2 (M := 40) (n := 40) rfl (fun q => by rw [i32_lt] at q; rw [i32_le] at h0; omega) h40
          refine ⟨nI k, 0, upd S_lanes j (nI ln), upd S_sizes j (nI k), va_up S_rows j (fillI 40 (S_rows j) 0), 0, 0, upd M_lane j (nI ln), upd M_many j (nI k), clr40 M_item j 40, ?_, ?_, ⟨n, nb, hN, ?_, hT, hTT, hTr, rfl, e2⟩⟩
          · unfold fX6_sheet fX6_sheet_c35 fX4_begin
            rw [ha, bd1_i, if_neg (by decide), if_neg (nI_pos (by omega)), if_neg (show ¬ (3 : Int32) ≤ nI ln from nI_ge hln (by decide)), if_pos h40, if_pos h0, if_pos rfl, sti_n hj (by decide), sti_n hj (by decide), rwx_n hj, bnd_i, bnd_i, bd3_i]
          · unfold fX7_sheet
            have hin : fX7_in (nI ln).toInt64 0 2 = some 1 := by
              rw [z64, show (2 : Int64) = (nI 2).toInt64 from rfl, in_t (nI_pos (by omega)) (nI_nlt (by omega) (by omega))]
            rw [hb, bd1_i, if_neg (by decide), hin, bd1_i, if_neg (by decide), if_pos h40, if_pos h0, sti_n hj (by decide), sti_n hj (by decide)]
            have hc : clr40 M_item j 0 = M_item := by
              funext q
              unfold clr40
              rw [if_neg (by omega)]
            have := sheet_loop 0 0 (upd M_lane j (nI ln)) (upd M_many j (nI k)) M_item j hj (nI k) FU 0 (by decide) (by decide)
            rw [hc, nI_0] at this
            exact this
          · intro i hi
            obtain ⟨q1, q2, q3, q4, q5⟩ := hS i hi
            by_cases hij : i = j
            · subst hij
              rw [upd_eq, upd_eq, upd_eq, upd_eq]
              refine ⟨rfl, ?_, rfl, ⟨k, hk, rfl⟩, fun t ht => ?_⟩
              · rcases (show ln = 0 ∨ ln = 1 ∨ ln = 2 by omega) with rfl | rfl | rfl
                · exact Or.inr (Or.inl rfl)
                · exact Or.inr (Or.inr (Or.inl rfl))
                · exact Or.inr (Or.inr (Or.inr rfl))
              · unfold clr40 va_up fillI
                rw [if_pos ⟨by omega, by omega⟩, if_pos rfl, if_pos ht]
            · rw [upd_ne _ _ hij, upd_ne _ _ hij, upd_ne _ _ hij, upd_ne _ _ hij]
              refine ⟨q1, q2, q3, q4, fun t ht => ?_⟩
              have : va_up S_rows j (fillI 40 (S_rows j) 0) i = S_rows i := by unfold va_up; rw [if_neg hij]
              rw [this, ← q5 t ht]
              unfold clr40
              rw [if_neg (by omega)]
        · refine ⟨(-1000010 : Int32) - 4, 4, S_lanes, S_sizes, S_rows, 0, 4, M_lane, M_many, M_item, ?_, ?_, ⟨n, nb, hN, hS, hT, hTT, hTr, rfl, e2⟩⟩
          · unfold fX6_sheet fX6_sheet_c35
            rw [ha, bd1_i, if_neg (by decide), if_neg (nI_pos (by omega)), if_neg (show ¬ (3 : Int32) ≤ nI ln from nI_ge hln (by decide)), if_pos h40, if_neg h0, if_neg (by decide)]
          · unfold fX7_sheet fX7_found
            have hin : fX7_in (nI ln).toInt64 0 2 = some 1 := by
              rw [z64, show (2 : Int64) = (nI 2).toInt64 from rfl, in_t (nI_pos (by omega)) (nI_nlt (by omega) (by omega))]
            rw [hb, bd1_i, if_neg (by decide), hin, bd1_i, if_neg (by decide), if_pos h40, if_neg h0, bd2_i]
      · refine ⟨-1000001, B_latestFinding, S_lanes, S_sizes, S_rows, 0, M_status, M_lane, M_many, M_item, ?_, ?_, hI⟩
        · unfold fX6_sheet
          rw [ha, bd1_i, if_neg (by decide), if_neg (nI_pos (by omega)), if_neg (show ¬ (3 : Int32) ≤ nI ln from nI_ge hln (by decide)), if_neg h40]
        · unfold fX7_sheet
          have hin : fX7_in (nI ln).toInt64 0 2 = some 1 := by
            rw [z64, show (2 : Int64) = (nI 2).toInt64 from rfl, in_t (nI_pos (by omega)) (nI_nlt (by omega) (by omega))]
          rw [hb, bd1_i, if_neg (by decide), hin, bd1_i, if_neg (by decide), if_neg h40]
    · refine ⟨-1000001, B_latestFinding, S_lanes, S_sizes, S_rows, 0, M_status, M_lane, M_many, M_item, ?_, ?_, hI⟩
      · unfold fX6_sheet
        rw [ha, bd1_i, if_neg (by decide)]
        by_cases h0 : p1 < 0
        · rw [if_pos h0]
        · rw [if_neg h0, if_pos (show (3 : Int32) ≤ p1 from h.resolve_left h0)]
      · unfold fX7_sheet
        have hin : fX7_in p1.toInt64 0 2 = some 0 := in_k_f (k := 3) h (by decide)
        rw [hb, bd1_i, if_neg (by decide), hin, bd1_i, if_pos rfl]
  · refine ⟨-1000001, B_latestFinding, S_lanes, S_sizes, S_rows, 0, M_status, M_lane, M_many, M_item, ?_, ?_, hI⟩
    · unfold fX6_sheet
      rw [ha, bd1_i, if_pos rfl]
    · unfold fX7_sheet
      rw [hb, bd1_i, if_pos rfl]
