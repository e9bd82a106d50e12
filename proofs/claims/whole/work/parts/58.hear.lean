/-! steps: hears, spreads, round, run -/
def tcn (nb : Nat → Nat) (s k : Nat) : Nat → Nat
  | 0 => 0
  | p + 1 => tcn nb s k p + (if s.testBit p && (nb p).testBit k then 1 else 0)
def on1 (nb : Nat → Nat) (s : Nat) : Nat → Nat
  | 0 => 0
  | p + 1 => if s.testBit p then on1 nb s p ||| nb p else on1 nb s p
def tw2 (nb : Nat → Nat) (s : Nat) : Nat → Nat
  | 0 => 0
  | p + 1 => if s.testBit p then tw2 nb s p ||| (on1 nb s p &&& nb p) else tw2 nb s p
theorem on1_bit (nb : Nat → Nat) (s k : Nat) : ∀ p, (on1 nb s p).testBit k = decide (1 ≤ tcn nb s k p)
  | 0 => by simp [on1, tcn]
  | p + 1 => by
    unfold on1 tcn
    have ih := on1_bit nb s k p
    by_cases h : s.testBit p = true
    · rw [if_pos h, Nat.testBit_or, ih, h, Bool.true_and]
      by_cases g : (nb p).testBit k = true
      · rw [g, if_pos rfl, Bool.or_true]; simp
      · rw [if_neg g]
        have g' : (nb p).testBit k = false := by simpa using g
        rw [g', Bool.or_false]; simp
    · rw [if_neg h, ih]
      have h' : s.testBit p = false := by simpa using h
      rw [h', Bool.false_and]; simp
theorem tw2_bit (nb : Nat → Nat) (s k : Nat) : ∀ p, (tw2 nb s p).testBit k = decide (2 ≤ tcn nb s k p)
  | 0 => by simp [tw2, tcn]
  | p + 1 => by
    unfold tw2 tcn
    have ih := tw2_bit nb s k p
    have i1 := on1_bit nb s k p
    by_cases h : s.testBit p = true
    · rw [if_pos h, Nat.testBit_or, Nat.testBit_and, ih, i1, h, Bool.true_and]
      by_cases g : (nb p).testBit k = true
      · rw [g, if_pos rfl, Bool.and_true]
        by_cases a : 1 ≤ tcn nb s k p
        · have : 2 ≤ tcn nb s k p + 1 := by omega
          simp [a, this]
        · have : ¬ 2 ≤ tcn nb s k p + 1 := by omega
          have h2 : ¬ 2 ≤ tcn nb s k p := by omega
          simp [a, this, h2]
      · rw [if_neg g]
        have g' : (nb p).testBit k = false := by simpa using g
        rw [g', Bool.and_false, Bool.or_false]; simp
    · rw [if_neg h, ih]
      have h' : s.testBit p = false := by simpa using h
      rw [h', Bool.false_and]; simp
theorem tcn_cnt {n : Nat} {nb : Nat → Nat} (h : iN n nb) (s : Nat) {k : Nat} (hk : k < 8) : ∀ p, p ≤ 8 → tcn nb s k p = cnt (nb k &&& s) p
  | 0, _ => rfl
  | p + 1, hp => by
    unfold tcn cnt
    rw [tcn_cnt h s hk p (by omega), Nat.testBit_and, h.2.2.1 k p hk (by omega), Bool.and_comm]
/-- who hears: not sounding, and one teller (talk: h = 1) or at least one (beeps) -/
def hP (h : Int32) (n : Nat) (nb : Nat → Nat) (s k : Nat) : Bool := !s.testBit k && (if h = 0 then decide (1 ≤ cnt (nb k &&& s) n) else decide (cnt (nb k &&& s) n = 1))
def hrs (h : Int32) (n : Nat) (nb : Nat → Nat) (s : Nat) : Nat → Nat
  | 0 => 0
  | k + 1 => if hP h n nb s k then hrs h n nb s k ||| 2 ^ k else hrs h n nb s k
theorem hrs_bit (h : Int32) (n : Nat) (nb : Nat → Nat) (s j : Nat) : ∀ m, (hrs h n nb s m).testBit j = (decide (j < m) && hP h n nb s j)
  | 0 => by simp [hrs]
  | m + 1 => by
    unfold hrs
    have ih := hrs_bit h n nb s j m
    by_cases q : hP h n nb s m = true
    · rw [if_pos q, Nat.testBit_or, ih, Nat.testBit_two_pow]
      by_cases r : m = j
      · subst r; simp [q]
      · have : (decide (j < m + 1)) = decide (j < m) := by rw [decide_eq_decide]; omega
        simp [r, this]
    · rw [if_neg q, ih]
      by_cases r : m = j
      · subst r
        have q' : hP h n nb s m = false := by simpa using q
        simp [q']
      · have : (decide (j < m + 1)) = decide (j < m) := by rw [decide_eq_decide]; omega
        rw [this]
theorem hrs_lt (h : Int32) (n : Nat) (nb : Nat → Nat) (s : Nat) (m : Nat) : hrs h n nb s m < 2 ^ m := by
  apply Nat.lt_pow_two_of_testBit
  intro i hi
  rw [hrs_bit]
  have : ¬ i < m := by omega
  simp [this]
abbrev hea (h : Int32) (n : Nat) (nb : Nat → Nat) (s : Nat) : Nat := hrs h n nb s n
theorem nI_m1 : (-1 : Int32) = nI 4294967295 := by decide +kernel
theorem nI_andn (x y : Nat) : nI x &&& (nI y ^^^ (-1)) = nI (x &&& (y ^^^ 4294967295)) := by rw [nI_m1, nI_xor, nI_and]
theorem andn_bit {x y : Nat} (hx : x < 2 ^ 32) (i : Nat) : (x &&& (y ^^^ 4294967295)).testBit i = (x.testBit i && !y.testBit i) := by
  rw [Nat.testBit_and, Nat.testBit_xor, show 4294967295 = 2 ^ 32 - 1 from rfl, Nat.testBit_two_pow_sub_one]
  by_cases h : i < 32
  · simp [h]
  · rw [Nat.testBit_lt_two_pow (Nat.lt_of_lt_of_le hx (Nat.pow_le_pow_right (by decide) (by omega)))]; simp
theorem cnt_w {v n m : Nat} (h : v < 2 ^ n) (hm : n ≤ m) : cnt v m = cnt v n := by
  induction m with
  | zero => rw [show n = 0 by omega]
  | succ m ih =>
    by_cases q : n = m + 1
    · subst q; rfl
    · show cnt v m + (if v.testBit m then 1 else 0) = _
      have : ¬ v.testBit m = true := fun w => by have := bit_lt h w; omega
      rw [if_neg this, ih (by omega), Nat.add_zero]
theorem on1_lt {n : Nat} {nb : Nat → Nat} (h : iN n nb) (s : Nat) : ∀ p, p ≤ 8 → on1 nb s p < 2 ^ n
  | 0, _ => Nat.two_pow_pos n
  | p + 1, hp => by
    unfold on1
    have := on1_lt h s p (by omega)
    split
    · exact Nat.or_lt_two_pow this (h.2.1 p (by omega))
    · exact this
theorem xhear_loop {n : Nat} {nb : Nat → Nat} (h : iN n nb) {F : Nat → Int32} (hF : ∀ i, i < 8 → F i = nI (nb i)) (x : Int32) {s : Nat} (hs : s < 2 ^ n) : ∀ (m k : Nat), k ≤ n → n + 1 ≤ k + m → fX1_heardBy_c8 (nI n) F m x (nI s) (nI (on1 nb s k)) (nI (tw2 nb s k)) (nI k) = (if x = 1 then fX1_heardBy_c72 (nI n) F (nI s) (nI (on1 nb s n) &&& (nI (tw2 nb s n) ^^^ (-1))) else fX1_heardBy_c72 (nI n) F (nI s) (nI (on1 nb s n))) := by
  have hn := h.1
  intro m
  induction m with
  | zero => intro k h1 h2; omega
  | succ m ih =>
    intro k h1 h2
    rw [fX1_heardBy_c8]
    by_cases q : k = n
    · subst q; rw [if_pos (nI_le (Nat.le_refl k) (by omega))]
    · rw [if_neg (nI_ge (by omega) (by omega))]
      have hi := ih (k + 1) (by omega) (by omega)
      have u1 : on1 nb s (k + 1) = if s.testBit k then on1 nb s k ||| nb k else on1 nb s k := rfl
      have u2 : tw2 nb s (k + 1) = if s.testBit k then tw2 nb s k ||| (on1 nb s k &&& nb k) else tw2 nb s k := rfl
      by_cases r : s.testBit k = true
      · rw [if_pos ((bit_is (set_lt h hs) (by omega)).mpr r), ldx_n (by omega) (by decide), ldx_n (by omega) (by decide), hF k (by omega), nI_or, nI_and, nI_or, nI_1]
        rw [if_pos r] at u1 u2
        rw [u1, u2] at hi
        exact hi
      · rw [if_neg (fun w => r ((bit_is (set_lt h hs) (by omega)).mp w)), nI_1]
        rw [if_neg r] at u1 u2
        rw [u1, u2] at hi
        exact hi
theorem xhear_of {n : Nat} {nb : Nat → Nat} (h : iN n nb) {F : Nat → Int32} (hF : ∀ i, i < 8 → F i = nI (nb i)) {x : Int32} (hx : x = 0 ∨ x = 1) {s : Nat} (hs : s < 2 ^ n) : fX1_heardBy (nI n) F x (nI s) = some (nI (hea x n nb s)) := by
  have hn := h.1
  have hl := xhear_loop h hF x hs FU 0 (Nat.zero_le _) (by unfold FU; omega)
  have ho : on1 nb s n < 2 ^ 32 := Nat.lt_of_lt_of_le (on1_lt h s n hn) (Nat.pow_le_pow_right (by decide) (by omega))
  have hob : ∀ k, (on1 nb s n).testBit k = true → k < n := fun k q => bit_lt (on1_lt h s n hn) q
  have e : fX1_heardBy (nI n) F x (nI s) = fX1_heardBy_c8 (nI n) F FU x (nI s) (nI (on1 nb s 0)) (nI (tw2 nb s 0)) (nI 0) := rfl
  rw [e, hl]
  unfold fX1_heardBy_c72
  rcases hx with rfl | rfl
  · rw [if_neg (by decide), nI_andn]
    refine congrArg (fun z => some (nI z)) ?_
    apply Nat.eq_of_testBit_eq
    intro k
    rw [andn_bit ho, on1_bit, hrs_bit]
    unfold hP
    rw [if_pos rfl]
    by_cases hk : k < n
    · rw [tcn_cnt h s (by omega) n hn]
      simp [hk, Bool.and_comm]
    · have : ¬ (on1 nb s n).testBit k = true := fun q => hk (hob k q)
      rw [on1_bit] at this
      simp only [decide_eq_true_eq] at this
      simp [hk, this]
  · rw [if_pos rfl, nI_andn, nI_andn]
    refine congrArg (fun z => some (nI z)) ?_
    apply Nat.eq_of_testBit_eq
    intro k
    rw [andn_bit (Nat.lt_of_le_of_lt Nat.and_le_left ho), andn_bit ho, on1_bit, tw2_bit, hrs_bit]
    unfold hP
    rw [if_neg (by decide)]
    by_cases hk : k < n
    · rw [tcn_cnt h s (by omega) n hn]
      have : (decide (1 ≤ cnt (nb k &&& s) n) && !decide (2 ≤ cnt (nb k &&& s) n)) = decide (cnt (nb k &&& s) n = 1) := by
        by_cases c1 : cnt (nb k &&& s) n = 1
        · simp [c1]
        · by_cases c2 : 1 ≤ cnt (nb k &&& s) n
          · have : 2 ≤ cnt (nb k &&& s) n := by omega
            simp [c1, this]
          · simp [c1, c2]
      rw [this]
      simp [hk, Bool.and_comm]
    · have : ¬ (on1 nb s n).testBit k = true := fun q => hk (hob k q)
      rw [on1_bit] at this
      simp only [decide_eq_true_eq] at this
      simp [hk, this]
theorem mhear_loop {n : Nat} {nb : Nat → Nat} (h : iN n nb) {F : Nat → Int32} (hF : ∀ i, i < 8 → F i = nI (nb i)) {x : Int32} (hx : x = 0 ∨ x = 1) {s : Nat} (hs : s < 2 ^ n) : ∀ (m k : Nat), k ≤ n → n + 1 ≤ k + m → fX7_hearing_c5 (nI n) F m x (nI s) (nI (hrs x n nb s k)) (nI k) = some (nI (hea x n nb s)) := by
  have hn := h.1
  intro m
  induction m with
  | zero => intro k h1 h2; omega
  | succ m ih =>
    intro k h1 h2
    rw [fX7_hearing_c5]
    by_cases q : k = n
    · subst q; rw [if_pos (nI_le (Nat.le_refl k) (by omega))]
    · have hv : nb k &&& s < 2 ^ n := Nat.lt_of_le_of_lt Nat.and_le_right hs
      have hc := cnt_le (nb k &&& s) 8
      rw [if_neg (nI_ge (by omega) (by omega)), ldx_n (by omega) (by decide), hF k (by omega), nI_and, size_of _ (set_lt h hv), bd1_i]
      have hi := ih (k + 1) (by omega) (by omega)
      have u : hrs x n nb s (k + 1) = if hP x n nb s k then hrs x n nb s k ||| 2 ^ k else hrs x n nb s k := rfl
      unfold fX7_hearing_c63 fX7_hearing_c56
      rw [bnd_i, sh1 k (by omega), nI_or, show (0 : Int32) = nI 0 from rfl, nI_or, Nat.or_zero, nI_1]
      rw [show nI 0 = (0 : Int32) from rfl]
      have hcw : cnt (nb k &&& s) n = cnt (nb k &&& s) 8 := (cnt_w hv hn).symm
      have hyes : hP x n nb s k = true → fX7_hearing_c5 (nI n) F m x (nI s) (nI (hrs x n nb s k ||| 2 ^ k)) (nI (k + 1)) = some (nI (hea x n nb s)) := fun w => by
        rw [if_pos w] at u; rw [u] at hi; exact hi
      have hno : ¬ hP x n nb s k = true → fX7_hearing_c5 (nI n) F m x (nI s) (nI (hrs x n nb s k)) (nI (k + 1)) = some (nI (hea x n nb s)) := fun w => by
        rw [if_neg w] at u; rw [u] at hi; exact hi
      by_cases r : s.testBit k = true
      · rw [if_neg (fun w => (bit_is0 (set_lt h hs) (by omega)).mp w r)]
        exact hno (by unfold hP; simp [r])
      · have r' : s.testBit k = false := by simpa using r
        rw [if_pos ((bit_is0 (set_lt h hs) (by omega)).mpr r)]
        rcases hx with rfl | rfl
        · rw [if_pos rfl]
          by_cases w : cnt (nb k &&& s) 8 = 0
          · rw [if_pos (show nI (cnt (nb k &&& s) 8) ≤ (0 : Int32) by rw [w]; decide)]
            exact hno (by unfold hP; rw [if_pos rfl, hcw, w, r']; decide)
          · rw [if_neg (show ¬ nI (cnt (nb k &&& s) 8) ≤ (0 : Int32) from nI_nle (by omega) (by omega))]
            exact hyes (by unfold hP; rw [if_pos rfl, hcw, r']; simp; omega)
        · rw [if_neg (by decide)]
          by_cases w : cnt (nb k &&& s) 8 = 1
          · rw [if_pos (show nI (cnt (nb k &&& s) 8) = (1 : Int32) by rw [w]; rfl)]
            exact hyes (by unfold hP; rw [if_neg (by decide), hcw, w, r']; decide)
          · rw [if_neg (show ¬ nI (cnt (nb k &&& s) 8) = (1 : Int32) from fun z => w ((nI_eq (a := cnt (nb k &&& s) 8) (b := 1) (by omega) (by omega)).mp z))]
            exact hno (by unfold hP; rw [if_neg (by decide), hcw, r']; simp [w])
theorem mhear_of {n : Nat} {nb : Nat → Nat} (h : iN n nb) {F : Nat → Int32} (hF : ∀ i, i < 8 → F i = nI (nb i)) {x : Int32} (hx : x = 0 ∨ x = 1) {s : Nat} (hs : s < 2 ^ n) : fX7_hearing (nI n) F x (nI s) = some (nI (hea x n nb s)) :=
  mhear_loop h hF hx hs FU 0 (Nat.zero_le _) (by have := h.1; unfold FU; omega)
theorem st_hears {B_latestFinding : Int32} {B_latestFault : Int32} {S_lanes : Nat → Int32} {S_sizes : Nat → Int32} {S_rows : Nat → Nat → Int32} {N_posts : Int32} {N_neighbours : Nat → Int32} {R_length : Int32} {R_tape : Nat → Int32} {T_size : Int32} {T_rounds : Nat → Int32} {K_length : Int32} {K_begun : Nat → Int32} {M_status : Int32} {M_posts : Int32} {M_rounds : Int32} {M_taped : Int32} {M_latest : Int32} {M_traced : Int32} {M_lane : Nat → Int32} {M_many : Nat → Int32} {M_item : Nat → Int32} {M_beside : Nat → Int32} {M_round : Nat → Int32} {M_tape : Nat → Int32} {M_trace : Nat → Int32} (hI : Inv B_latestFinding B_latestFault S_lanes S_sizes S_rows N_posts N_neighbours R_length R_tape T_size T_rounds K_length K_begun M_status M_posts M_rounds M_taped M_latest M_traced M_lane M_many M_item M_beside M_round M_tape M_trace) (p0 : Int32) (p1 : Int32) (M_thrown : Int32) : ∃ (rr : Int32) (M_thrown_z : Int32), fX6_hears N_posts N_neighbours p0 p1 = some rr ∧ fX7_hears M_thrown M_posts M_beside p0 p1 = some (rr, M_thrown_z) ∧ Inv B_latestFinding B_latestFault S_lanes S_sizes S_rows N_posts N_neighbours R_length R_tape T_size T_rounds K_length K_begun M_status M_posts M_rounds M_taped M_latest M_traced M_lane M_many M_item M_beside M_round M_tape M_trace := by
  obtain ⟨n, nb, ⟨hN, eN, eM, h4⟩, hS, hT, hTT, hTr, e1, e2⟩ := id hI
  have hn := hN.1
  rcases hear_cases p0 with ⟨hx, ha1, ha2⟩ | ⟨ha1, ha2⟩
  case inr =>
    refine ⟨-1000001, 0, ?_, ?_, hI⟩
    · unfold fX6_hears
      rw [ha1, bd1_i, if_pos rfl]
    · unfold fX7_hears
      rw [ha2, bd1_i, if_pos rfl]
  rcases set_cases p1 hn with ⟨t, ht, rfl, hb1, hb2⟩ | ⟨hb1, hb2⟩
  case inr =>
    refine ⟨-1000001, 0, ?_, ?_, hI⟩
    · unfold fX6_hears
      rw [ha1, bd1_i, if_neg (by decide), eN, hb1, bd1_i, if_pos rfl]
    · unfold fX7_hears
      rw [ha2, bd1_i, if_neg (by decide), eM, hb2, bd1_i, if_pos rfl]
  refine ⟨nI (hea p0 n nb t), 0, ?_, ?_, hI⟩
  · unfold fX6_hears
    rw [ha1, bd1_i, if_neg (by decide), eN, hb1, bd1_i, if_neg (by decide), xhear_of hN (fun i hi => (h4 i hi).1) hx ht, bd1_i]
  · unfold fX7_hears
    rw [ha2, bd1_i, if_neg (by decide), eM, hb2, bd1_i, if_neg (by decide), mhear_of hN (fun i hi => (h4 i hi).2) hx ht, bd1_i]
/-- who knows behind a round -/
def spr (h : Int32) (n : Nat) (nb : Nat → Nat) (k s : Nat) : Nat := k ||| hea h n nb (k &&& s)
theorem spr_lt {h : Int32} {n : Nat} {nb : Nat → Nat} {k s : Nat} (hk : k < 2 ^ n) : spr h n nb k s < 2 ^ n := Nat.or_lt_two_pow hk (hrs_lt _ _ _ _ _)
theorem xspr_of {n : Nat} {nb : Nat → Nat} (h : iN n nb) {F : Nat → Int32} (hF : ∀ i, i < 8 → F i = nI (nb i)) {x : Int32} (hx : x = 0 ∨ x = 1) {k s : Nat} (hk : k < 2 ^ n) : fX1_knowAfter (nI n) F x (nI k) (nI s) = some (nI (spr x n nb k s)) := by
  unfold fX1_knowAfter
  rw [nI_and, xhear_of h hF hx (Nat.lt_of_le_of_lt Nat.and_le_left hk), bd1_i, nI_or]; rfl
theorem mspr_of {n : Nat} {nb : Nat → Nat} (h : iN n nb) {F : Nat → Int32} (hF : ∀ i, i < 8 → F i = nI (nb i)) {x : Int32} (hx : x = 0 ∨ x = 1) {k s : Nat} (hk : k < 2 ^ n) : fX7_spread (nI n) F x (nI k) (nI s) = some (nI (spr x n nb k s)) := by
  unfold fX7_spread
  rw [nI_and, mhear_of h hF hx (Nat.lt_of_le_of_lt Nat.and_le_left hk), bd1_i, nI_or]; rfl
theorem st_spreads {B_latestFinding : Int32} {B_latestFault : Int32} {S_lanes : Nat → Int32} {S_sizes : Nat → Int32} {S_rows : Nat → Nat → Int32} {N_posts : Int32} {N_neighbours : Nat → Int32} {R_length : Int32} {R_tape : Nat → Int32} {T_size : Int32} {T_rounds : Nat → Int32} {K_length : Int32} {K_begun : Nat → Int32} {M_status : Int32} {M_posts : Int32} {M_rounds : Int32} {M_taped : Int32} {M_latest : Int32} {M_traced : Int32} {M_lane : Nat → Int32} {M_many : Nat → Int32} {M_item : Nat → Int32} {M_beside : Nat → Int32} {M_round : Nat → Int32} {M_tape : Nat → Int32} {M_trace : Nat → Int32} (hI : Inv B_latestFinding B_latestFault S_lanes S_sizes S_rows N_posts N_neighbours R_length R_tape T_size T_rounds K_length K_begun M_status M_posts M_rounds M_taped M_latest M_traced M_lane M_many M_item M_beside M_round M_tape M_trace) (p0 : Int32) (p1 : Int32) (p2 : Int32) (M_thrown : Int32) : ∃ (rr : Int32) (M_thrown_z : Int32), fX6_spreads N_posts N_neighbours p0 p1 p2 = some rr ∧ fX7_spreads M_thrown M_posts M_beside p0 p1 p2 = some (rr, M_thrown_z) ∧ Inv B_latestFinding B_latestFault S_lanes S_sizes S_rows N_posts N_neighbours R_length R_tape T_size T_rounds K_length K_begun M_status M_posts M_rounds M_taped M_latest M_traced M_lane M_many M_item M_beside M_round M_tape M_trace := by
  obtain ⟨n, nb, ⟨hN, eN, eM, h4⟩, hS, hT, hTT, hTr, e1, e2⟩ := id hI
  have hn := hN.1
  rcases hear_cases p0 with ⟨hx, ha1, ha2⟩ | ⟨ha1, ha2⟩
  case inr =>
    refine ⟨-1000001, 0, ?_, ?_, hI⟩
    · unfold fX6_spreads
      rw [ha1, bd1_i, if_pos rfl]
    · unfold fX7_spreads
      rw [ha2, bd1_i, if_pos rfl]
  rcases set_cases p1 hn with ⟨t, ht, rfl, hb1, hb2⟩ | ⟨hb1, hb2⟩
  case inr =>
    refine ⟨-1000001, 0, ?_, ?_, hI⟩
    · unfold fX6_spreads
      rw [ha1, bd1_i, if_neg (by decide), eN, hb1, bd1_i, if_pos rfl]
    · unfold fX7_spreads
      rw [ha2, bd1_i, if_neg (by decide), eM, hb2, bd1_i, if_pos rfl]
  rcases set_cases p2 hn with ⟨u, hu, rfl, hc1, hc2⟩ | ⟨hc1, hc2⟩
  case inr =>
    refine ⟨-1000001, 0, ?_, ?_, hI⟩
    · unfold fX6_spreads
      rw [ha1, bd1_i, if_neg (by decide), eN, hb1, bd1_i, if_neg (by decide), hc1, bd1_i, if_pos rfl]
    · unfold fX7_spreads
      rw [ha2, bd1_i, if_neg (by decide), eM, hb2, bd1_i, if_neg (by decide), hc2, bd1_i, if_pos rfl]
  refine ⟨nI (spr p0 n nb t u), 0, ?_, ?_, hI⟩
  · unfold fX6_spreads
    rw [ha1, bd1_i, if_neg (by decide), eN, hb1, bd1_i, if_neg (by decide), hc1, bd1_i, if_neg (by decide), xspr_of hN (fun i hi => (h4 i hi).1) hx ht, bd1_i]
  · unfold fX7_spreads
    rw [ha2, bd1_i, if_neg (by decide), eM, hb2, bd1_i, if_neg (by decide), hc2, bd1_i, if_neg (by decide), mspr_of hN (fun i hi => (h4 i hi).2) hx ht, bd1_i]
/-! rounds of the schedule -/
theorem and_all {c n : Nat} (h : c < 2 ^ n) : c &&& (2 ^ n - 1) = c := by
  rw [Nat.and_two_pow_sub_one_eq_mod, Nat.mod_eq_of_lt h]
/-- what sounds in a round: the same number on both sides -/
theorem snd_at {n k : Nat} (hn : n ≤ 8) {T_rounds M_round : Nat → Int32} {i : Nat} (h : M_round i = T_rounds i ∧ (T_rounds i = -1 ∨ ∃ c : Nat, c < 2 ^ n ∧ T_rounds i = nI c)) (hi : i < k) (hk : k ≤ 20) :
    ∃ c : Nat, c < 2 ^ n ∧ fX5_soundsIn T_rounds (nI i) (nI (2 ^ n - 1)) = some (nI c) ∧ ∀ j : Nat, j < 2 ^ 31 → j % k = i → fX7_soundsIn (nI n) (nI k) M_round (nI j) = some (nI c) := by
  have hk0 : ¬ nI k = 0 := fun q => by
    have := (nI_eq (a := k) (b := 0) (by omega) (by decide)).mp q
    omega
  have h2 : 0 < 2 ^ n := Nat.two_pow_pos n
  rcases h with ⟨hm, h | ⟨c, hc, h⟩⟩
  · refine ⟨2 ^ n - 1, by omega, ?_, fun j hj hjk => ?_⟩
    · unfold fX5_soundsIn
      rw [ldx_n (by omega) (by decide), h, nI_m1, nI_and]
      congr 2
      rw [Nat.and_comm]
      apply Nat.eq_of_testBit_eq
      intro b
      rw [Nat.testBit_and, show 4294967295 = 2 ^ 32 - 1 from rfl, Nat.testBit_two_pow_sub_one, Nat.testBit_two_pow_sub_one]
      by_cases q : b < n
      · have : b < 32 := by omega
        simp [q, this]
      · simp [q]
    · unfold fX7_soundsIn fX7_all
      rw [nzx_i hk0, pk_rem hj (by omega) (by omega), hjk, ldx_n (by omega) (by decide), hm, if_pos h, bd1_i, all_of n (by omega)]
  · refine ⟨c, hc, ?_, fun j hj hjk => ?_⟩
    · unfold fX5_soundsIn
      rw [ldx_n (by omega) (by decide), h, nI_and, and_all hc]
    · have hne : ¬ nI c = -1 := fun q => by
        have h8 := pow8 hn
        have := congrArg Int32.toInt q
        rw [nI_toInt (by omega), show (-1 : Int32).toInt = -1 from by decide] at this
        omega
      unfold fX7_soundsIn
      rw [nzx_i hk0, pk_rem hj (by omega) (by omega), hjk, ldx_n (by omega) (by decide), hm, h, if_neg hne, nzx_i hk0, ldx_n (by omega) (by decide), hm, h]
theorem st_round {B_latestFinding : Int32} {B_latestFault : Int32} {S_lanes : Nat → Int32} {S_sizes : Nat → Int32} {S_rows : Nat → Nat → Int32} {N_posts : Int32} {N_neighbours : Nat → Int32} {R_length : Int32} {R_tape : Nat → Int32} {T_size : Int32} {T_rounds : Nat → Int32} {K_length : Int32} {K_begun : Nat → Int32} {M_status : Int32} {M_posts : Int32} {M_rounds : Int32} {M_taped : Int32} {M_latest : Int32} {M_traced : Int32} {M_lane : Nat → Int32} {M_many : Nat → Int32} {M_item : Nat → Int32} {M_beside : Nat → Int32} {M_round : Nat → Int32} {M_tape : Nat → Int32} {M_trace : Nat → Int32} (hI : Inv B_latestFinding B_latestFault S_lanes S_sizes S_rows N_posts N_neighbours R_length R_tape T_size T_rounds K_length K_begun M_status M_posts M_rounds M_taped M_latest M_traced M_lane M_many M_item M_beside M_round M_tape M_trace) (p0 : Int32) (M_thrown : Int32) : ∃ (rr : Int32) (M_thrown_z : Int32), fX6_round N_posts T_size T_rounds p0 = some rr ∧ fX7_round M_thrown M_posts M_rounds M_round p0 = some (rr, M_thrown_z) ∧ Inv B_latestFinding B_latestFault S_lanes S_sizes S_rows N_posts N_neighbours R_length R_tape T_size T_rounds K_length K_begun M_status M_posts M_rounds M_taped M_latest M_traced M_lane M_many M_item M_beside M_round M_tape M_trace := by
  obtain ⟨n, nb, ⟨hN, eN, eM, h4⟩, hS, hT, ⟨k, hk, eT, eR, hh⟩, hTr, e1, e2⟩ := id hI
  have hn := hN.1
  rcases rng_cases p0 k (by omega) with ⟨i, hi, rfl⟩ | h
  · obtain ⟨c, hc, c1, c2⟩ := snd_at hn (hh i hi) hi hk
    refine ⟨nI c, 0, ?_, ?_, hI⟩
    · unfold fX6_round fX5_hasRound fX1_allPosts
      rw [eT, if_neg (nI_pos (by omega)), if_neg (nI_ge hi (by omega)), bd1_i, if_neg (by decide), eN, all_of n (by omega), bd1_i, c1, bd1_i]
    · unfold fX7_round
      rw [eR, in_k_t hi (by omega), bd1_i, if_neg (by decide), eM, c2 i (by omega) (Nat.mod_eq_of_lt hi), bd1_i]
  · refine ⟨-1000000, 0, ?_, ?_, hI⟩
    · unfold fX6_round fX5_hasRound
      rw [eT]
      by_cases h0 : p0 < 0
      · rw [if_pos h0, bd1_i, if_pos rfl]
      · rw [if_neg h0, if_pos (h.resolve_left h0), bd1_i, if_pos rfl]
    · unfold fX7_round
      rw [eR, in_k_f h (by omega), bd1_i, if_pos rfl]
theorem over_at {n k : Nat} (hn : n ≤ 8) (hk0 : 0 < k) (hk : k ≤ 20) {T_rounds M_round : Nat → Int32} (hh : ∀ i, i < k → M_round i = T_rounds i ∧ (T_rounds i = -1 ∨ ∃ c : Nat, c < 2 ^ n ∧ T_rounds i = nI c)) {r : Nat} (hr : r < 2 ^ 31) :
    ∃ c : Nat, c < 2 ^ n ∧ fX5_soundsOverAndOver (nI k) T_rounds (nI r) (nI (2 ^ n - 1)) = some (nI c) ∧ fX7_soundsIn (nI n) (nI k) M_round (nI r) = some (nI c) := by
  have hi : r % k < k := Nat.mod_lt _ hk0
  obtain ⟨c, hc, c1, c2⟩ := snd_at hn (hh _ hi) hi hk
  have hz : ¬ nI k = 0 := fun q => by
    have := (nI_eq (a := k) (b := 0) (by omega) (by decide)).mp q
    omega
  refine ⟨c, hc, ?_, c2 r hr rfl⟩
  unfold fX5_soundsOverAndOver
  rw [if_neg hz, nzx_i hz, pk_rem hr hk0 (by omega), c1, bd1_i]
theorem run_loop {n : Nat} {nb : Nat → Nat} (h : iN n nb) {F G : Nat → Int32} (hF : ∀ i, i < 8 → F i = nI (nb i)) (hG : ∀ i, i < 8 → G i = nI (nb i)) {x : Int32} (hx : x = 0 ∨ x = 1) {k : Nat} (hk0 : 0 < k) (hk : k ≤ 20) {T_rounds M_round : Nat → Int32} (hh : ∀ i, i < k → M_round i = T_rounds i ∧ (T_rounds i = -1 ∨ ∃ c : Nat, c < 2 ^ n ∧ T_rounds i = nI c)) {t : Nat} (ht : t ≤ 60) :
    ∀ (m r s : Nat), r ≤ t → t + 1 ≤ r + m → s < 2 ^ n → ∃ v : Int32, fX6_run_c52 (nI n) F (nI k) T_rounds m x (nI t) (nI s) (nI r) = some v ∧ fX7_run_c53 (nI n) (nI k) G M_round m 0 x (nI t) (nI s) (nI r) = some (v, 0) := by
  have hn := h.1
  intro m
  induction m with
  | zero => intro r s h1 h2; omega
  | succ m ih =>
    intro r s h1 h2 hs
    rw [fX6_run_c52, fX7_run_c53]
    by_cases q : r = t
    · subst q
      rw [if_pos (nI_le (Nat.le_refl r) (by omega)), if_pos (nI_le (Nat.le_refl r) (by omega))]
      exact ⟨nI s, rfl, rfl⟩
    · obtain ⟨c, hc, c1, c2⟩ := over_at hn hk0 hk hh (r := r) (by omega)
      unfold fX1_allPosts
      rw [if_neg (nI_ge (by omega) (by omega)), if_neg (nI_ge (by omega) (by omega)), bd1_i, all_of n (by omega), c1, bd1_i, c2, bd1_i, xspr_of h hF hx hs, bd1_i, mspr_of h hG hx hs, bd1_i, nI_1]
      exact ih (r + 1) _ (by omega) (by omega) (spr_lt hs)
theorem in60_t {j : Nat} (h : j ≤ 60) : fX7_in (nI j).toInt64 0 60 = some 1 := by
  rw [z64, show (60 : Int64) = (nI 60).toInt64 from rfl, in_t (nI_pos (by omega)) (nI_nlt (by omega) (by omega))]
theorem st_run {B_latestFinding : Int32} {B_latestFault : Int32} {S_lanes : Nat → Int32} {S_sizes : Nat → Int32} {S_rows : Nat → Nat → Int32} {N_posts : Int32} {N_neighbours : Nat → Int32} {R_length : Int32} {R_tape : Nat → Int32} {T_size : Int32} {T_rounds : Nat → Int32} {K_length : Int32} {K_begun : Nat → Int32} {M_status : Int32} {M_posts : Int32} {M_rounds : Int32} {M_taped : Int32} {M_latest : Int32} {M_traced : Int32} {M_lane : Nat → Int32} {M_many : Nat → Int32} {M_item : Nat → Int32} {M_beside : Nat → Int32} {M_round : Nat → Int32} {M_tape : Nat → Int32} {M_trace : Nat → Int32} (hI : Inv B_latestFinding B_latestFault S_lanes S_sizes S_rows N_posts N_neighbours R_length R_tape T_size T_rounds K_length K_begun M_status M_posts M_rounds M_taped M_latest M_traced M_lane M_many M_item M_beside M_round M_tape M_trace) (p0 : Int32) (p1 : Int32) (p2 : Int32) (M_thrown : Int32) : ∃ (rr : Int32) (M_thrown_z : Int32), fX6_run N_posts N_neighbours T_size T_rounds p0 p1 p2 = some rr ∧ fX7_run M_thrown M_posts M_rounds M_beside M_round p0 p1 p2 = some (rr, M_thrown_z) ∧ Inv B_latestFinding B_latestFault S_lanes S_sizes S_rows N_posts N_neighbours R_length R_tape T_size T_rounds K_length K_begun M_status M_posts M_rounds M_taped M_latest M_traced M_lane M_many M_item M_beside M_round M_tape M_trace := by
  obtain ⟨n, nb, ⟨hN, eN, eM, h4⟩, hS, hT, ⟨k, hk, eT, eR, hh⟩, hTr, e1, e2⟩ := id hI
  have hn := hN.1
  rcases hear_cases p0 with ⟨hx, ha1, ha2⟩ | ⟨ha1, ha2⟩
  case inr =>
    refine ⟨-1000001, 0, ?_, ?_, hI⟩
    · unfold fX6_run
      rw [ha1, bd1_i, if_pos rfl]
    · unfold fX7_run
      rw [ha2, bd1_i, if_pos rfl]
  rcases post_cases p1 hn with ⟨a, ha, rfl, hb1, hb2⟩ | ⟨hb1, hb2⟩
  case inr =>
    refine ⟨-1000001, 0, ?_, ?_, hI⟩
    · unfold fX6_run
      rw [ha1, bd1_i, if_neg (by decide), eN, hb1, bd1_i, if_pos rfl]
    · unfold fX7_run
      rw [ha2, bd1_i, if_neg (by decide), eM, hb2, bd1_i, if_pos rfl]
  rcases rng_cases p2 61 (by decide) with ⟨t, ht, rfl⟩ | h
  case inr =>
    refine ⟨-1000001, 0, ?_, ?_, hI⟩
    · unfold fX6_run
      rw [ha1, bd1_i, if_neg (by decide), eN, hb1, bd1_i, if_neg (by decide)]
      by_cases h0 : p2 < 0
      · rw [if_pos h0]
      · have h5 := h.resolve_left h0
        rw [if_neg h0, if_neg]
        intro q
        rw [i32_le, show (60 : Int32).toInt = 60 from rfl] at q
        rw [i32_le, nI_toInt (by decide)] at h5
        omega
    · unfold fX7_run
      have hin : fX7_in p2.toInt64 0 60 = some 0 := in_k_f (k := 61) h (by decide)
      rw [ha2, bd1_i, if_neg (by decide), eM, hb2, bd1_i, if_neg (by decide), hin, bd1_i, if_pos rfl]
  have c60 : nI t ≤ (60 : Int32) := show nI t ≤ nI 60 from nI_le (by omega) (by decide)
  by_cases hk0 : k = 0
  · subst hk0
    refine ⟨-1000002, 0, ?_, ?_, hI⟩
    · unfold fX6_run fX5_size
      rw [ha1, bd1_i, if_neg (by decide), eN, hb1, bd1_i, if_neg (by decide), if_neg (nI_pos (by omega)), if_pos c60, eT, bd1_i, if_pos nI_0]
    · unfold fX7_run
      rw [ha2, bd1_i, if_neg (by decide), eM, hb2, bd1_i, if_neg (by decide), in60_t (by omega), bd1_i, if_neg (by decide), eR, if_pos nI_0]
  · have hz : ¬ nI k = 0 := fun q => hk0 ((nI_eq (a := k) (b := 0) (by omega) (by decide)).mp q)
    obtain ⟨v, v1, v2⟩ := run_loop hN (fun i hi => (h4 i hi).1) (fun i hi => (h4 i hi).2) hx (k := k) (by omega) hk hh (t := t) (by omega) FU 0 (2 ^ a) (Nat.zero_le _) (by unfold FU; omega) (p2_lt ha)
    refine ⟨v, 0, ?_, ?_, hI⟩
    · unfold fX6_run fX5_size
      rw [ha1, bd1_i, if_neg (by decide), eN, hb1, bd1_i, if_neg (by decide), if_neg (nI_pos (by omega)), if_pos c60, eT, bd1_i, if_neg hz, sh1 a (by omega), bnd_i]
      exact v1
    · unfold fX7_run
      rw [ha2, bd1_i, if_neg (by decide), eM, hb2, bd1_i, if_neg (by decide), in60_t (by omega), bd1_i, if_neg (by decide), eR, if_neg hz, sh1 a (by omega), bnd_i]
      exact v2
