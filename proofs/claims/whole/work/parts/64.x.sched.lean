/-! schedule: the whole text -/
theorem sch_loop {F G : Nat → Int32} {b : Nat → Nat} {L : Nat} (T : Tp F G b L) {n : Nat} (hn : n ≤ 8) (th mr tp la : Int32) (ro : Nat → Int32) : ∀ (m m' r s e : Nat) (tk so nu fA : Int32) (g h : Nat → Int32), r ≤ 20 → 22 ≤ r + m → 22 ≤ r + m' → TokR b G L s e tk so nu → agr n r g h →
    ∃ (fa rr tk' be nu' rm at' so' fr ti fA' : Int32) (s' : Nat) (g' h' : Nat → Int32), fX2_read_c18 F m (nI L) (nI r) tk (nI s) (nI e) nu g (nI n) 0 (nI r) = some (fa, 0, rr, tk', nI s', be, nu', g') ∧ fX7_schedule_c37 (nI n) G m' th mr (nI r) tp la (nI L) (nI e) so (nI s) (nI e) 0 fA ro h = fX7_schedule_c59 (nI n) G th mr rm tp la (nI L) at' so' fr ti fa fA' ro h' ∧ ((fa = 0 ∧ ∃ r' : Nat, r' ≤ 20 ∧ rr = nI r' ∧ rm = nI r' ∧ agr n r' g' h') ∨ ((fa = 1 ∨ fa = 2 ∨ fa = 3) ∧ fA' = nI s')) := by
  intro m
  induction m with
  | zero => intro m' r s e tk so nu fA g h h1 h2; omega
  | succ m ih =>
    intro m' r s e tk so nu fA g h h1 h2 h3 K hg
    obtain ⟨k, hk⟩ : ∃ k, m' = k + 1 + 1 := ⟨m' - 2, by omega⟩
    obtain ⟨k2, hk2⟩ : ∃ k, m = k + 1 := ⟨m - 1, by omega⟩
    subst hk
    rw [fX2_read_c18, if_neg (show ¬ (20 : Int32) < nI r from nI_nlt h1 (by decide)), if_pos rfl, fX7_schedule_c37, if_pos rfl]
    by_cases q : tk = 0
    · rw [if_pos q, if_pos (K.2.2.1.mp q)]
      exact ⟨0, nI r, tk, nI e, nu, nI r, nI e, so, nI s, nI e, fA, s, g, h, rfl, rfl, Or.inl ⟨rfl, r, h1, rfl, rfl, hg⟩⟩
    · rw [if_neg q, if_neg (fun w => q (K.2.2.1.mpr w))]
      obtain ⟨fa, rr, tk', nu', be, so', fA', rm, at', fr, ti, s', e', g', h', c1, c2, c3⟩ := rdR T hn h1 fA K hg
      rw [c1, bd7_i, c2, bd8_i, nI_1]
      rcases c3 with ⟨rfl, d1, rfl, rfl, rfl, rfl, rfl, rfl, d2, d3⟩ | ⟨d1, d2⟩
      · exact ih (k + 1) (r + 1) s' e' tk' so' nu' fA' g' h' (by omega) (by omega) (by omega) d2 d3
      · have hf : ¬ fa = 0 := by rcases d1 with rfl | rfl | rfl <;> decide
        rw [hk2, fX2_read_c18, fX7_schedule_c37, if_neg hf, if_neg hf]
        refine ⟨fa, rr, tk', be, nu', rm, at', so', fr, ti, fA', s', g', h', ?_, rfl, Or.inr ⟨d1, d2⟩⟩
        split <;> rfl
theorem cp92 (po : Int32) (G : Nat → Int32) {k : Nat} (hk : k ≤ 20) (th tp la le at' so fr ti fa fA : Int32) (h : Nat → Int32) : ∀ (m i : Nat) (ro : Nat → Int32), i ≤ k → k + 1 ≤ i + m → ∃ ro' : Nat → Int32, fX7_schedule_c92 po G m th (nI k) (nI k) tp la le at' so fr ti fa fA ro h (nI i) = some (nI k, th, nI k, nI k, tp, la, le, at', so, fr, ti, fa, fA, ro', h) ∧ (∀ j, i ≤ j → j < k → ro' j = h j) ∧ (∀ j, j < i → ro' j = ro j) := by
  intro m
  induction m with
  | zero => intro i ro h1 h2; omega
  | succ m ih =>
    intro i ro h1 h2
    rw [fX7_schedule_c92]
    by_cases q : i = k
    · rw [if_pos (nI_le (by omega) (by omega))]
      exact ⟨ro, rfl, fun j a c => by omega, fun j _ => rfl⟩
    · rw [if_neg (nI_ge (by omega) (by omega)), ldx_n (by omega) (by decide), sti_n (by omega) (by decide), nI_1]
      obtain ⟨ro', e1, e2, e3⟩ := ih (i + 1) (upd ro i (h i)) (by omega) (by omega)
      refine ⟨ro', e1, fun j a c => ?_, fun j a => ?_⟩
      · by_cases w : j = i
        · subst w; rw [e3 j (by omega), upd_eq]
        · exact e2 j (by omega) c
      · rw [e3 j (by omega), upd_ne _ _ (by omega)]
theorem give_of {k : Nat} (hk : k ≤ 20) (g t : Nat → Int32) : fX2_giveRounds (nI k) g t = some (nI k, va_cpy g t 0 0 k) := by
  unfold fX2_giveRounds
  exact cpx_n (sp := 0) (dp := 0) (by omega) (by omega) (by decide) (by decide)
theorem st_schedule {B_latestFinding : Int32} {B_latestFault : Int32} {S_lanes : Nat → Int32} {S_sizes : Nat → Int32} {S_rows : Nat → Nat → Int32} {N_posts : Int32} {N_neighbours : Nat → Int32} {R_length : Int32} {R_tape : Nat → Int32} {T_size : Int32} {T_rounds : Nat → Int32} {K_length : Int32} {K_begun : Nat → Int32} {M_status : Int32} {M_posts : Int32} {M_rounds : Int32} {M_taped : Int32} {M_latest : Int32} {M_traced : Int32} {M_lane : Nat → Int32} {M_many : Nat → Int32} {M_item : Nat → Int32} {M_beside : Nat → Int32} {M_round : Nat → Int32} {M_tape : Nat → Int32} {M_trace : Nat → Int32} (hI : Inv B_latestFinding B_latestFault S_lanes S_sizes S_rows N_posts N_neighbours R_length R_tape T_size T_rounds K_length K_begun M_status M_posts M_rounds M_taped M_latest M_traced M_lane M_many M_item M_beside M_round M_tape M_trace) (R_roundsRead : Int32) (R_token : Int32) (R_start : Int32) (R_behind : Int32) (R_number : Int32) (R_rounds : Nat → Int32) (M_thrown : Int32) (M_read : Int32) (M_length : Int32) (M_at : Int32) (M_sort : Int32) (M_from : Int32) (M_till : Int32) (M_fault : Int32) (M_faultAt : Int32) (M_reads : Nat → Int32) : ∃ (rr : Int32) (B_latestFault_z : Int32) (R_length_z : Int32) (R_roundsRead_z : Int32) (R_token_z : Int32) (R_start_z : Int32) (R_behind_z : Int32) (R_number_z : Int32) (R_rounds_z : Nat → Int32) (T_size_z : Int32) (T_rounds_z : Nat → Int32) (M_thrown_z : Int32) (M_rounds_z : Int32) (M_read_z : Int32) (M_taped_z : Int32) (M_latest_z : Int32) (M_length_z : Int32) (M_at_z : Int32) (M_sort_z : Int32) (M_from_z : Int32) (M_till_z : Int32) (M_fault_z : Int32) (M_faultAt_z : Int32) (M_round_z : Nat → Int32) (M_reads_z : Nat → Int32), fX6_schedule B_latestFault N_posts R_length R_roundsRead R_token R_start R_behind R_number R_tape R_rounds T_size T_rounds = some (rr, B_latestFault_z, R_length_z, R_roundsRead_z, R_token_z, R_start_z, R_behind_z, R_number_z, R_rounds_z, T_size_z, T_rounds_z) ∧ fX7_schedule M_thrown M_posts M_rounds M_read M_taped M_latest M_length M_at M_sort M_from M_till M_fault M_faultAt M_round M_reads M_tape = some (rr, M_thrown_z, M_rounds_z, M_read_z, M_taped_z, M_latest_z, M_length_z, M_at_z, M_sort_z, M_from_z, M_till_z, M_fault_z, M_faultAt_z, M_round_z, M_reads_z) ∧ Inv B_latestFinding B_latestFault_z S_lanes S_sizes S_rows N_posts N_neighbours R_length_z R_tape T_size_z T_rounds_z K_length K_begun M_status M_posts M_rounds_z M_taped_z M_latest_z M_traced M_lane M_many M_item M_beside M_round_z M_tape M_trace := by
  obtain ⟨n, nb, hN, hS, ⟨L, hL, rfl, rfl, hT⟩, hTT, hTr, hf, hF⟩ := hI
  have hn := hN.1.1
  have T : Tp R_tape M_tape (fun i => (R_tape i).toNatClampNeg) L := ⟨hL, fun i hi => by
    obtain ⟨t1, c, t2, t3⟩ := hT i hi
    have e : (R_tape i).toNatClampNeg = c := by rw [t3]; exact nI_clamp (by omega)
    exact ⟨by show R_tape i = nI (R_tape i).toNatClampNeg; rw [e]; exact t3, by show M_tape i = nI (R_tape i).toNatClampNeg; rw [e, t1]; exact t3, by show (R_tape i).toNatClampNeg < 256; omega⟩⟩
  have eN : N_posts = nI n := hN.2.1
  have eM : M_posts = nI n := hN.2.2.1
  obtain ⟨tk, so, nu, s, e, a1, a2, a3⟩ := tok T (Nat.zero_le L) R_token R_start R_number M_sort M_from M_till
  obtain ⟨fa, rr, tk', be, nu', rm, at', so', fr, ti, fA', s', g', h', c1, c2, c3⟩ := sch_loop T hn 0 M_rounds 0 M_latest M_round FU FU 0 s e tk so nu M_faultAt R_rounds M_reads (by decide) (by unfold FU; omega) (by unfold FU; omega) a3 (fun i hi => by omega)
  rw [nI_0] at a1 a2 c1 c2
  unfold fX6_schedule fX1_size fX2_read fX7_schedule
  rw [bd1_i, a1, bd4_i, a2, bd4_i, eN, eM, c1, bd8_i, c2]
  unfold fX7_schedule_c59
  rcases c3 with ⟨rfl, r', d1, rfl, rfl, d2⟩ | ⟨d1, rfl⟩
  · obtain ⟨ro', e1, e2, e3⟩ := cp92 (nI n) M_tape d1 0 0 M_latest (nI L) at' so' fr ti 0 fA' h' FU 0 M_round (Nat.zero_le _) (by unfold FU; omega)
    rw [nI_0] at e1
    unfold fX5_become fX5_size
    rw [if_pos rfl, if_pos (by decide), e1, give_of d1, bd2_i, bd2_i, bd1_i]
    rw [eN, eM] at hN
    refine ⟨_, _, _, _, _, _, _, _, _, _, _, _, _, _, _, _, _, _, _, _, _, _, _, _, _, rfl, rfl, n, nb, hN, hS, ⟨0, by decide, rfl, rfl, fun i hi => by omega⟩, ⟨r', d1, rfl, rfl, fun i hi => ?_⟩, hTr, hf, hF⟩
    obtain ⟨x1, x2⟩ := d2 i hi
    rw [e2 i (Nat.zero_le _) hi, pk_cpy_in (Nat.zero_le _) (by omega), show 0 + (i - 0) = i by omega]
    exact ⟨x1, x2⟩
  · have h0 : ¬ fa = 0 ∧ ¬ fa ≤ 0 := by rcases d1 with rfl | rfl | rfl <;> decide
    rw [if_neg h0.1, if_neg h0.2]
    unfold fX2_tokenPlace
    rw [bd1_i]
    rw [eN, eM] at hN
    exact ⟨_, _, _, _, _, _, _, _, _, _, _, _, _, _, _, _, _, _, _, _, _, _, _, _, _, rfl, rfl, n, nb, hN, hS, ⟨0, by decide, rfl, rfl, fun i hi => by omega⟩, hTT, hTr, hf, rfl⟩
