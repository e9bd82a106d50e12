/-! step: feed -/
theorem byte_eq (w : Int64) {U : UInt64} {D : Int64} {s : Nat} (hs : s ≤ 56) (hU : U.toBitVec % 64 = BitVec.ofNat 64 s) (hD : D.toBitVec.smod 64 = BitVec.ofNat 64 s) : (w.toUInt64 >>> U).toInt64 &&& 255 = (w >>> D) &&& 255 := by
  apply Int64.toBitVec_inj.1
  show (w.toBitVec >>> (U.toBitVec % 64)) &&& 255#64 = (w.toBitVec.sshiftRight' (D.toBitVec.smod 64)) &&& 255#64
  rw [hU, hD]
  have e : (BitVec.ofNat 64 s).toNat = s := by
    rw [BitVec.toNat_ofNat]; omega
  apply BitVec.eq_of_getLsbD_eq
  intro i hi
  rw [BitVec.getLsbD_and, BitVec.getLsbD_and, BitVec.ushiftRight_eq', BitVec.sshiftRight_eq', e, BitVec.getLsbD_ushiftRight, BitVec.getLsbD_sshiftRight]
  by_cases h8 : i < 8
  · have h1 : s + i < 64 := by omega
    simp [h1, hi, show ¬ 64 ≤ i by omega]
  · have h2 : (255#64).getLsbD i = false := by
      rw [show (255#64) = BitVec.ofNat 64 (2 ^ 8 - 1) from rfl, BitVec.getLsbD_ofNat, Nat.testBit_two_pow_sub_one]
      simp [h8]
    rw [h2, Bool.and_false, Bool.and_false]
theorem lN_and (a b : Nat) : lN a &&& lN b = lN (a &&& b) := by
  apply Int64.toBitVec_inj.1
  show BitVec.ofNat 64 a &&& BitVec.ofNat 64 b = BitVec.ofNat 64 (a &&& b)
  apply BitVec.eq_of_getLsbD_eq
  intro i hi
  simp [hi]
theorem x_of64 (x : Int64) : ∃ n, n < 2 ^ 64 ∧ x = lN n := by
  refine ⟨x.toBitVec.toNat, x.toBitVec.isLt, ?_⟩
  apply Int64.toBitVec_inj.1
  show x.toBitVec = BitVec.ofNat 64 x.toBitVec.toNat
  simp
theorem byte_in (x : Int64) : ∃ c : Nat, c < 256 ∧ (x &&& 255).toInt32 = nI c := by
  obtain ⟨n, hn, rfl⟩ := x_of64 x
  refine ⟨n &&& 255, Nat.lt_of_le_of_lt Nat.and_le_right (by decide), ?_⟩
  rw [show (255 : Int64) = lN 255 from rfl, lN_and, lN_i]
theorem sh_u : ∀ k, k < 8 → (((8 : Int32) * nI k).toInt64.toUInt64 &&& Int64.toUInt64 63).toBitVec % 64 = BitVec.ofNat 64 (8 * k) := by decide +kernel
theorem sh_d : ∀ k, k < 8 → (((8 : Int32) * nI k).toInt64 &&& 63).toBitVec.smod 64 = BitVec.ofNat 64 (8 * k) := by decide +kernel
theorem feed_loop (w : Int64) : ∀ (m k L : Nat) (F G : Nat → Int32), k ≤ 8 → k + 1 ≤ m → L + k ≤ 300 → (∀ i, i < L → G i = F i ∧ ∃ c : Nat, c < 256 ∧ F i = nI c) →
    ∃ F' G' : Nat → Int32, fX2_take_c5 m (nI L) F w (nI k + (-1)) = some (nI (L + k), nI (L + k), F') ∧ fX7_feed_c40 m 0 (nI L) G w (nI k + (-1)) = some (nI (L + k), 0, nI (L + k), G') ∧ ∀ i, i < L + k → G' i = F' i ∧ ∃ c : Nat, c < 256 ∧ F' i = nI c := by
  intro m
  induction m with
  | zero => intro k L F G h1 h2; omega
  | succ m ih =>
    intro k L F G h1 h2 h3 h4
    rw [fX2_take_c5, fX7_feed_c40]
    cases k with
    | zero =>
      have hz : nI 0 + (-1) < 0 := by decide
      rw [if_pos hz, if_pos hz]
      exact ⟨F, G, rfl, rfl, h4⟩
    | succ k =>
      rw [pk_m1, if_neg (nI_pos (by omega)), if_neg (nI_pos (by omega)), sti_n (by omega) (by decide), sti_n (by omega) (by decide), nI_1]
      have hbe := byte_eq w (s := 8 * k) (by omega) (sh_u k (by omega)) (sh_d k (by omega))
      rw [hbe]
      obtain ⟨c, hc, ec⟩ := byte_in (w >>> (((8 : Int32) * nI k).toInt64 &&& 63))
      rw [ec]
      obtain ⟨F', G', e1, e2, e3⟩ := ih k (L + 1) (upd F L (nI c)) (upd G L (nI c)) (by omega) (by omega) (by omega) (fun i hi => by
        by_cases q : i = L
        · subst q; rw [upd_eq, upd_eq]; exact ⟨rfl, c, hc, rfl⟩
        · rw [upd_ne _ _ q, upd_ne _ _ q]; exact h4 i (by omega))
      rw [show L + 1 + k = L + (k + 1) by omega] at e1 e2 e3
      exact ⟨F', G', e1, e2, e3⟩
theorem st_feed {B_latestFinding : Int32} {B_latestFault : Int32} {S_lanes : Nat → Int32} {S_sizes : Nat → Int32} {S_rows : Nat → Nat → Int32} {N_posts : Int32} {N_neighbours : Nat → Int32} {R_length : Int32} {R_tape : Nat → Int32} {T_size : Int32} {T_rounds : Nat → Int32} {K_length : Int32} {K_begun : Nat → Int32} {M_status : Int32} {M_posts : Int32} {M_rounds : Int32} {M_taped : Int32} {M_latest : Int32} {M_traced : Int32} {M_lane : Nat → Int32} {M_many : Nat → Int32} {M_item : Nat → Int32} {M_beside : Nat → Int32} {M_round : Nat → Int32} {M_tape : Nat → Int32} {M_trace : Nat → Int32} (hI : Inv B_latestFinding B_latestFault S_lanes S_sizes S_rows N_posts N_neighbours R_length R_tape T_size T_rounds K_length K_begun M_status M_posts M_rounds M_taped M_latest M_traced M_lane M_many M_item M_beside M_round M_tape M_trace) (p0 : Int64) (p1 : Int32) (M_thrown : Int32) : ∃ (rr : Int32) (R_length_z : Int32) (R_tape_z : Nat → Int32) (M_thrown_z : Int32) (M_taped_z : Int32) (M_tape_z : Nat → Int32), fX6_feed R_length R_tape p0 p1 = some (rr, R_length_z, R_tape_z) ∧ fX7_feed M_thrown M_taped M_tape p0 p1 = some (rr, M_thrown_z, M_taped_z, M_tape_z) ∧ Inv B_latestFinding B_latestFault S_lanes S_sizes S_rows N_posts N_neighbours R_length_z R_tape_z T_size T_rounds K_length K_begun M_status M_posts M_rounds M_taped_z M_latest M_traced M_lane M_many M_item M_beside M_round M_tape_z M_trace := by
  obtain ⟨n, nb, hN, hS, ⟨L, hL, eL, eM, hh⟩, hTT, hTr, e1, e2⟩ := id hI
  rcases rng_cases p1 9 (by decide) with ⟨m, hm, rfl⟩ | h
  · by_cases hm0 : m = 0
    · subst hm0
      refine ⟨-1000001, R_length, R_tape, 0, M_taped, M_tape, ?_, ?_, hI⟩
      · unfold fX6_feed
        rw [if_pos (show nI 0 < (1 : Int32) by decide)]
      · unfold fX7_feed
        rw [show (1 : Int64) = (1 : Int32).toInt64 from rfl, show (8 : Int64) = (8 : Int32).toInt64 from rfl, in_f (Or.inl (by decide)), bd1_i, if_pos rfl]
    have hin : fX7_in (nI m).toInt64 1 8 = some 1 := by
      rw [show (1 : Int64) = (nI 1).toInt64 from rfl, show (8 : Int64) = (nI 8).toInt64 from rfl, in_t (nI_nlt (by omega) (by omega)) (nI_nlt (by omega) (by omega))]
    have c1 : ¬ nI m < (1 : Int32) := show ¬ nI m < nI 1 from nI_nlt (by omega) (by omega)
    have c2 : nI m ≤ (8 : Int32) := show nI m ≤ nI 8 from nI_le (by omega) (by decide)
    by_cases hr : L + m ≤ 300
    · obtain ⟨F', G', f1, f2, f3⟩ := feed_loop p0 FU m L R_tape M_tape (by omega) (by unfold FU; omega) hr hh
      have es : nI m - (1 : Int32) = nI m + (-1) := by
        obtain ⟨q, rfl⟩ : ∃ q, m = q + 1 := ⟨m - 1, by omega⟩
        rw [pk_m1, nI_pred]
      refine ⟨nI (L + m), nI (L + m), F', 0, nI (L + m), G', ?_, ?_, ⟨n, nb, hN, hS, ⟨L + m, hr, rfl, rfl, f3⟩, hTT, hTr, e1, e2⟩⟩
      · unfold fX6_feed fX2_hasRoom fX2_take
        rw [if_neg c1, if_pos c2, eL, show (300 : Int32) = nI 300 from rfl, pk_sub (by omega), if_neg (nI_nlt (by omega) (by omega)), bd1_i, if_neg (by decide), es, f1, bd3_i]
      · unfold fX7_feed
        rw [hin, bd1_i, if_neg (by decide), eM, nI_add, if_pos (show nI (L + m) ≤ (300 : Int32) from nI_le (show L + m ≤ 300 from hr) (by decide)), es, f2]
    · refine ⟨-1000003, R_length, R_tape, 0, M_taped, M_tape, ?_, ?_, hI⟩
      · unfold fX6_feed fX2_hasRoom
        rw [if_neg c1, if_pos c2, eL, show (300 : Int32) = nI 300 from rfl, pk_sub (by omega), if_pos (nI_lt (by omega) (by omega)), bd1_i, if_pos rfl]
      · unfold fX7_feed
        rw [hin, bd1_i, if_neg (by decide), eM, nI_add, if_neg (show ¬ nI (L + m) ≤ (300 : Int32) from nI_ge (show 300 < L + m by omega) (by omega))]
  · refine ⟨-1000001, R_length, R_tape, 0, M_taped, M_tape, ?_, ?_, hI⟩
    · unfold fX6_feed
      by_cases c1 : p1 < 1
      · rw [if_pos c1]
      · rw [if_neg c1, if_neg]
        intro q
        rw [i32_le, show (8 : Int32).toInt = 8 from rfl] at q
        rw [i32_lt, show (1 : Int32).toInt = 1 from rfl] at c1
        rcases h with h | h
        · rw [i32_lt, show (0 : Int32).toInt = 0 from rfl] at h; omega
        · rw [i32_le, nI_toInt (by decide)] at h; omega
    · unfold fX7_feed
      rw [show (1 : Int64) = (1 : Int32).toInt64 from rfl, show (8 : Int64) = (8 : Int32).toInt64 from rfl, in_f, bd1_i, if_pos rfl]
      rcases h with h | h
      · left
        rw [i32_lt, show (0 : Int32).toInt = 0 from rfl] at h
        rw [i32_lt, show (1 : Int32).toInt = 1 from rfl]; omega
      · right
        rw [i32_le, nI_toInt (by decide)] at h
        rw [i32_lt, show (8 : Int32).toInt = 8 from rfl]; omega
