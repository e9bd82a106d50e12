/-! schedule: both read the same piece -/
def TokR (b : Nat → Nat) (G : Nat → Int32) (L s e : Nat) (tk so nu : Int32) : Prop :=
  s ≤ e ∧ e ≤ L ∧ (tk = 0 ↔ so = 1) ∧ (tk = 5 ↔ so = 3) ∧ (tk = 6 ↔ so = 4) ∧ (tk = 5 → ((e = s + 1 ∨ e = s + 2) ∧ (∀ i, s ≤ i → i < e → isF (b i)) ∧ nu = nI (nv b s e))) ∧ ∃ w : Int64, fX7_word so (nI s) (nI e) G = some w ∧ (tk = 2 ↔ lg_cmp w 491496238692 = 0) ∧ (tk = 3 ↔ lg_cmp w 6384748 = 0) ∧ (tk = 4 ↔ lg_cmp w 500219601765 = 0)
theorem w0_R : ¬ lg_cmp 0 491496238692 = 0 := by decide +kernel
theorem w0_A : ¬ lg_cmp 0 6384748 = 0 := by decide +kernel
theorem w0_T : ¬ lg_cmp 0 500219601765 = 0 := by decide +kernel
theorem an_of {F G : Nat → Int32} {b : Nat → Nat} {L s e : Nat} (T : Tp F G b L) (hs : s < e) (he : e ≤ L) (h3 : ∀ i, s ≤ i → i < e → isL (b i)) (tk nu : Int32) : ∃ tk' : Int32, fX2_advanceName_c39 (nI L) (nI s) F tk (nI e) = some (tk', nI e) ∧ TokR b G L s e tk' (if e - s ≤ 6 then 2 else 0) nu := by
  have hL := T.1
  obtain ⟨r0, e0, c0⟩ := iw_of T (Nat.le_of_lt hs) he (k := 0) (by decide)
  obtain ⟨r1, e1, c1⟩ := iw_of T (Nat.le_of_lt hs) he (k := 1) (by decide)
  obtain ⟨r2, e2, c2⟩ := iw_of T (Nat.le_of_lt hs) he (k := 2) (by decide)
  unfold fX2_advanceName_c39
  rw [e0, bd1_i, e1, bd1_i, e2, bd1_i]
  -- the word
  have W : ∃ w : Int64, fX7_word (if e - s ≤ 6 then 2 else 0) (nI s) (nI e) G = some w ∧ (lg_cmp w 491496238692 = 0 ↔ isWd b s e 0) ∧ (lg_cmp w 6384748 = 0 ↔ isWd b s e 1) ∧ (lg_cmp w 500219601765 = 0 ↔ isWd b s e 2) := by
    by_cases q : e - s ≤ 6
    · rw [if_pos q]
      have hl : ∀ i, i < e - s → isL (b (s + i)) := fun i hi => h3 (s + i) (by omega) (by omega)
      have hb : ∀ i, i < e - s → b (s + i) < 256 := fun i hi => (T.2 (s + i) (by omega)).2.2
      have hlt := pkd_lt (e - s) hb
      have hp : 256 ^ (e - s) ≤ 256 ^ 6 := Nat.pow_le_pow_right (by decide) q
      have hv : pkd b s (e - s) < 2 ^ 63 := Nat.lt_of_lt_of_le hlt (Nat.le_trans hp (by decide))
      obtain ⟨p0, p1, p2⟩ := pk_w0 (e - s) q hl
      refine ⟨_, wd_of T he (Nat.le_of_lt hs), ?_, ?_, ?_⟩
      · exact (lgc_c (c := 491496238692) hv (by decide)).trans p0
      · exact (lgc_c (c := 6384748) hv (by decide)).trans p1
      · exact (lgc_c (c := 500219601765) hv (by decide)).trans p2
    · rw [if_neg q]
      refine ⟨0, wd_0 G (Nat.le_of_lt hs) (by omega) (by decide), ?_, ?_, ?_⟩
      · exact ⟨fun w => absurd w w0_R, fun w => absurd w.1 (by show ¬ e - s = 5; omega)⟩
      · exact ⟨fun w => absurd w w0_A, fun w => absurd w.1 (by show ¬ e - s = 3; omega)⟩
      · exact ⟨fun w => absurd w w0_T, fun w => absurd w.1 (by show ¬ e - s = 5; omega)⟩
  obtain ⟨w, w1, w2, w3, w4⟩ := W
  have x01 : isWd b s e 0 → ¬ isWd b s e 1 := fun a c => by
    have a1 : e - s = 5 := a.1
    have c1 : e - s = 3 := c.1
    omega
  have x12 : isWd b s e 1 → ¬ isWd b s e 2 := fun a c => by
    have a1 : e - s = 3 := a.1
    have c1 : e - s = 5 := c.1
    omega
  have x02 : isWd b s e 0 → ¬ isWd b s e 2 := fun a c => by
    have a1 : b (s + 0) = 114 := a.2 0 (by decide)
    have c1 : b (s + 0) = 116 := c.2 0 (by decide)
    omega
  have so1 : ¬ ((if e - s ≤ 6 then 2 else 0 : Int32) = 1) ∧ ¬ ((if e - s ≤ 6 then 2 else 0 : Int32) = 3) ∧ ¬ ((if e - s ≤ 6 then 2 else 0 : Int32) = 4) := by
    by_cases q : e - s ≤ 6
    · rw [if_pos q]; decide
    · rw [if_neg q]; decide
  have mk : ∀ t : Int32, ¬ t = 0 → ¬ t = 5 → ¬ t = 6 → (t = 2 ↔ isWd b s e 0) → (t = 3 ↔ isWd b s e 1) → (t = 4 ↔ isWd b s e 2) → TokR b G L s e t (if e - s ≤ 6 then 2 else 0) nu := fun t t0 t5 t6 a0 a1 a2 =>
    ⟨Nat.le_of_lt hs, he, ⟨fun q => absurd q t0, fun q => absurd q so1.1⟩, ⟨fun q => absurd q t5, fun q => absurd q so1.2.1⟩, ⟨fun q => absurd q t6, fun q => absurd q so1.2.2⟩, fun q => absurd q t5, w, w1, a0.trans w2.symm, a1.trans w3.symm, a2.trans w4.symm⟩
  rcases c0 with ⟨rfl, g0⟩ | ⟨rfl, g0⟩
  · rw [if_neg (by decide)]
    exact ⟨2, rfl, mk 2 (by decide) (by decide) (by decide) ⟨fun _ => g0, fun _ => rfl⟩ ⟨fun q => absurd q (by decide), fun q => absurd q (x01 g0)⟩ ⟨fun q => absurd q (by decide), fun q => absurd q (x02 g0)⟩⟩
  · rw [if_pos rfl]
    rcases c1 with ⟨rfl, g1⟩ | ⟨rfl, g1⟩
    · rw [if_neg (by decide)]
      exact ⟨3, rfl, mk 3 (by decide) (by decide) (by decide) ⟨fun q => absurd q (by decide), fun q => absurd q g0⟩ ⟨fun _ => g1, fun _ => rfl⟩ ⟨fun q => absurd q (by decide), fun q => absurd q (x12 g1)⟩⟩
    · rw [if_pos rfl]
      rcases c2 with ⟨rfl, g2⟩ | ⟨rfl, g2⟩
      · rw [if_neg (by decide)]
        exact ⟨4, rfl, mk 4 (by decide) (by decide) (by decide) ⟨fun q => absurd q (by decide), fun q => absurd q g0⟩ ⟨fun q => absurd q (by decide), fun q => absurd q g1⟩ ⟨fun _ => g2, fun _ => rfl⟩⟩
      · rw [if_pos rfl]
        exact ⟨1, rfl, mk 1 (by decide) (by decide) (by decide) ⟨fun q => absurd q (by decide), fun q => absurd q g0⟩ ⟨fun q => absurd q (by decide), fun q => absurd q g1⟩ ⟨fun q => absurd q (by decide), fun q => absurd q g2⟩⟩
theorem tok_z (b : Nat → Nat) (G : Nat → Int32) {L s e : Nat} (hL : L ≤ 300) (hs : s ≤ e) (he : e ≤ L) {tk so : Int32} (nu : Int32) (h2 : ¬ so = 2) (h0 : tk = 0 ↔ so = 1) (h5 : tk = 5 ↔ so = 3) (h6 : tk = 6 ↔ so = 4) (t2 : ¬ tk = 2) (t3 : ¬ tk = 3) (t4 : ¬ tk = 4) (hn : tk = 5 → ((e = s + 1 ∨ e = s + 2) ∧ (∀ i, s ≤ i → i < e → isF (b i)) ∧ nu = nI (nv b s e))) : TokR b G L s e tk so nu :=
  ⟨hs, he, h0, h5, h6, hn, 0, wd_0 G hs (by omega) h2, ⟨fun q => absurd q t2, fun q => absurd q w0_R⟩, ⟨fun q => absurd q t3, fun q => absurd q w0_A⟩, ⟨fun q => absurd q t4, fun q => absurd q w0_T⟩⟩
theorem tok {F G : Nat → Int32} {b : Nat → Nat} {L p : Nat} (T : Tp F G b L) (hp : p ≤ L) (tk st nu so fr ti : Int32) : ∃ (tk' so' nu' : Int32) (s e : Nat), fX2_advance (nI L) tk st (nI p) nu F = some (tk', nI s, nI e, nu') ∧ fX7_step (nI L) (nI p) so fr ti G = some (nI e, so', nI s, nI e) ∧ TokR b G L s e tk' so' nu' := by
  have hL := T.1
  obtain ⟨s, s1, s2, s3, s4⟩ := run_ex (fun i => b i = 32 ∨ b i = 10) L (L - p) p hp (by omega)
  unfold fX2_advance fX7_step
  rw [sk2_loop T s2 s3 s4 tk (nI p) nu FU p (Nat.le_refl _) s1 (by unfold FU; omega)]
  obtain ⟨m, em⟩ := sk7_loop T s2 s3 so fr ti FU p (Nat.le_refl _) s1 (by unfold FU; omega)
  rw [em, fX7_step_c0]
  unfold fX2_advance_c60
  by_cases q : s = L
  · subst q
    rw [if_neg (nI_nlt (Nat.le_refl _) (by omega)), by7_e G hL, bd1_i, if_neg (by decide), bd1_i, if_neg (by decide), bd1_i, if_pos rfl]
    exact ⟨0, 1, nu, s, s, rfl, rfl, tok_z b G hL (Nat.le_refl _) (Nat.le_refl _) nu (by decide) (by decide) (by decide) (by decide) (by decide) (by decide) (by decide) (fun w => absurd w (by decide))⟩
  · have hsL : s < L := by omega
    have t := T.2 s hsL
    have h6 := s4 hsL
    rw [if_pos (nI_lt hsL (by omega)), ldx_n (by omega) (by decide), t.1, by7 T hsL, bd1_i, if_neg (c_32 t.2.2 (fun w => h6 (Or.inl w))), bd1_i, if_neg (c_10 t.2.2 (fun w => h6 (Or.inr w))), bd1_i, if_neg (nN (b s) (by omega))]
    by_cases l : isL (b s)
    · obtain ⟨e, e1, e2, e3, e4⟩ := run_ex (fun i => isL (b i)) L (L - s) s s2 (by omega)
      have hse : s < e := by
        rcases Nat.lt_or_ge s e with w | w
        · exact w
        · have : e = s := by omega
          exact absurd l (by rw [← this]; exact e4 (by omega))
      obtain ⟨tk', a1, a2⟩ := an_of T hse e2 e3 tk nu
      rw [let2_t t.2.2 l, bd1_i, let7_t t.2.2 l, bd1_i, if_neg (by decide), if_neg (by decide), sn_loop T e2 e3 e4 so ti FU s (Nat.le_refl _) e1 (by unfold FU; omega)]
      unfold fX2_advanceName
      rw [an_loop T e2 e3 e4 tk FU s (Nat.le_refl _) e1 (by unfold FU; omega), a1, bd2_i]
      exact ⟨tk', _, nu, s, e, rfl, rfl, a2⟩
    · rw [let2_f t.2.2 l, bd1_i, let7_f t.2.2 l, bd1_i, if_pos rfl, if_pos rfl, ldx_n (by omega) (by decide), t.1]
      by_cases f : isF (b s)
      · obtain ⟨e, e1, e2, e3, e4⟩ := run_ex (fun i => isF (b i)) L (L - s) s s2 (by omega)
        have hse : s < e := by
          rcases Nat.lt_or_ge s e with w | w
          · exact w
          · have : e = s := by omega
            exact absurd f (by rw [← this]; exact e4 (by omega))
        have z := nu_loop T e2 e3 e4 tk FU s (Nat.le_refl _) e1 (by unfold FU; omega)
        rw [show nv b s s = 0 from if_pos rfl, nI_0] at z
        rw [fig2_t t.2.2 f, bd1_i, fig7_t t.2.2 f, bd1_i, if_neg (by decide), if_neg (by decide), su_loop T e2 e3 e4 so ti FU s (Nat.le_refl _) e1 (by unfold FU; omega)]
        unfold fX2_advanceNumber
        rw [z, bd3_i]
        refine ⟨_, _, _, s, e, rfl, rfl, ?_⟩
        by_cases g : e - s ≤ 2
        · rw [if_pos g, if_pos g]
          exact tok_z b G hL e1 e2 _ (by decide) (by decide) (by decide) (by decide) (by decide) (by decide) (by decide) (fun _ => ⟨by omega, e3, rfl⟩)
        · rw [if_neg g, if_neg g]
          exact tok_z b G hL e1 e2 _ (by decide) (by decide) (by decide) (by decide) (by decide) (by decide) (by decide) (fun w => absurd w (by decide))
      · rw [fig2_f t.2.2 f, bd1_i, fig7_f t.2.2 f, bd1_i, if_pos rfl, if_pos rfl, ldx_n (by omega) (by decide), t.1]
        by_cases g : b s = 59
        · rw [if_pos (by rw [g]; rfl), if_pos (by rw [g]; rfl), nI_1]
          exact ⟨6, 4, nu, s, s + 1, rfl, rfl, tok_z b G hL (by omega) (by omega) nu (by decide) (by decide) (by decide) (by decide) (by decide) (by decide) (by decide) (fun w => absurd w (by decide))⟩
        · rw [if_neg (c_59 t.2.2 g), if_neg (c_59 t.2.2 g), nI_1]
          exact ⟨1, 0, nu, s, s + 1, rfl, rfl, tok_z b G hL (by omega) (by omega) nu (by decide) (by decide) (by decide) (by decide) (by decide) (by decide) (by decide) (fun w => absurd w (by decide))⟩
