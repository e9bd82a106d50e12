/-! the net as sets of numbers: steps from a set, reach, FAR, WIDTH -/
def arnd (nb : Nat → Nat) (s : Nat) : Nat → Nat
  | 0 => 0
  | k + 1 => arnd nb s k ||| (if s.testBit k then nb k else 0)
theorem arnd_bit (nb : Nat → Nat) (s : Nat) (j : Nat) : ∀ n, (arnd nb s n).testBit j = true ↔ ∃ k, k < n ∧ s.testBit k = true ∧ (nb k).testBit j = true
  | 0 => by simp [arnd]
  | n + 1 => by
    unfold arnd
    rw [Nat.testBit_or, Bool.or_eq_true, arnd_bit nb s j n]
    constructor
    · rintro (⟨k, h1, h2, h3⟩ | h)
      · exact ⟨k, by omega, h2, h3⟩
      · by_cases q : s.testBit n = true
        · rw [if_pos q] at h; exact ⟨n, by omega, q, h⟩
        · rw [if_neg q] at h; simp at h
    · rintro ⟨k, h1, h2, h3⟩
      by_cases q : k = n
      · subst q; right; rw [if_pos h2]; exact h3
      · left; exact ⟨k, by omega, h2, h3⟩
theorem arnd_lt {n : Nat} {nb : Nat → Nat} (h : ∀ i, i < 8 → nb i < 2 ^ n) (s : Nat) : ∀ m, m ≤ 8 → arnd nb s m < 2 ^ n
  | 0, _ => by unfold arnd; exact Nat.two_pow_pos n
  | m + 1, hm => by
    unfold arnd
    refine Nat.or_lt_two_pow (arnd_lt h s m (by omega)) ?_
    split
    · exact h m (by omega)
    · exact Nat.two_pow_pos n
def stp (n : Nat) (nb : Nat → Nat) (s : Nat) : Nat := s ||| arnd nb s n
def itr (n : Nat) (nb : Nat → Nat) (s : Nat) : Nat → Nat
  | 0 => s
  | k + 1 => stp n nb (itr n nb s k)
theorem stp_lt {n : Nat} {nb : Nat → Nat} (h : iN n nb) {s : Nat} (hs : s < 2 ^ n) : stp n nb s < 2 ^ n := Nat.or_lt_two_pow hs (arnd_lt h.2.1 s n h.1)
theorem itr_lt {n : Nat} {nb : Nat → Nat} (h : iN n nb) {s : Nat} (hs : s < 2 ^ n) : ∀ k, itr n nb s k < 2 ^ n
  | 0 => hs
  | k + 1 => stp_lt h (itr_lt h hs k)
/-- bits of one number among another's -/
def sub (s t : Nat) : Prop := ∀ i, s.testBit i = true → t.testBit i = true
theorem sub_rf (s : Nat) : sub s s := fun _ h => h
theorem sub_tr {s t u : Nat} (h : sub s t) (g : sub t u) : sub s u := fun i q => g i (h i q)
theorem sub_as {s t : Nat} (h : sub s t) (g : sub t s) : s = t := by
  apply Nat.eq_of_testBit_eq
  intro i
  cases q : s.testBit i
  · cases r : t.testBit i
    · rfl
    · have := g i r; rw [q] at this; cases this
  · exact (h i q).symm
theorem sub_or (s t : Nat) : sub s (s ||| t) := fun i h => by rw [Nat.testBit_or, h, Bool.true_or]
theorem sub_stp (n : Nat) (nb : Nat → Nat) (s : Nat) : sub s (stp n nb s) := sub_or _ _
theorem itr_mono (n : Nat) (nb : Nat → Nat) (s : Nat) {i j : Nat} (h : i ≤ j) : sub (itr n nb s i) (itr n nb s j) := by
  induction j with
  | zero => rw [show i = 0 by omega]; exact sub_rf _
  | succ j ih =>
    by_cases q : i = j + 1
    · subst q; exact sub_rf _
    · exact sub_tr (ih (by omega)) (sub_stp n nb _)
theorem itr_stay (n : Nat) (nb : Nat → Nat) (s : Nat) {i : Nat} (h : itr n nb s (i + 1) = itr n nb s i) : ∀ k, itr n nb s (i + k) = itr n nb s i
  | 0 => rfl
  | k + 1 => by
    show stp n nb (itr n nb s (i + k)) = _
    rw [itr_stay n nb s h k]
    exact h
/-- how many of the first n bits -/
def cnt (s : Nat) : Nat → Nat
  | 0 => 0
  | k + 1 => cnt s k + (if s.testBit k then 1 else 0)
theorem cnt_le (s : Nat) : ∀ n, cnt s n ≤ n
  | 0 => Nat.le_refl 0
  | n + 1 => by
    unfold cnt
    have := cnt_le s n
    split <;> omega
theorem cnt_sub {s t : Nat} (h : sub s t) : ∀ n, cnt s n ≤ cnt t n
  | 0 => Nat.le_refl 0
  | n + 1 => by
    unfold cnt
    have := cnt_sub h n
    by_cases q : s.testBit n = true
    · rw [if_pos q, if_pos (h n q)]; omega
    · rw [if_neg q]; omega
theorem cnt_lt {s t : Nat} (h : sub s t) {i : Nat} (h1 : ¬ s.testBit i = true) (h2 : t.testBit i = true) : ∀ n, i < n → cnt s n < cnt t n
  | 0, hi => absurd hi (Nat.not_lt_zero i)
  | n + 1, hi => by
    unfold cnt
    by_cases q : i = n
    · subst q
      rw [if_neg h1, if_pos h2]
      have := cnt_sub h i
      omega
    · have := cnt_lt h h1 h2 n (by omega)
      by_cases r : s.testBit n = true
      · rw [if_pos r, if_pos (h n r)]; omega
      · rw [if_neg r]; omega
theorem cnt_pos {s i : Nat} (h : s.testBit i = true) : ∀ n, i < n → 0 < cnt s n := fun n hi => by
  have := cnt_lt (s := 0) (t := s) (fun j q => by simp at q) (i := i) (by simp) h n hi
  omega
theorem ne_bit {s t : Nat} (h : sub s t) (hne : s ≠ t) : ∃ i, ¬ s.testBit i = true ∧ t.testBit i = true := by
  apply Classical.byContradiction
  intro q
  exact hne (sub_as h (fun i r => Classical.byContradiction (fun w => q ⟨i, w, r⟩)))
theorem bit_lt {s n i : Nat} (hs : s < 2 ^ n) (h : s.testBit i = true) : i < n := by
  rcases Nat.lt_or_ge i n with q | q
  · exact q
  · rw [Nat.testBit_lt_two_pow (Nat.lt_of_lt_of_le hs (Nat.pow_le_pow_right (by decide) q))] at h; cases h
theorem pos_bit {s : Nat} (h : s ≠ 0) : ∃ i, s.testBit i = true := by
  obtain ⟨i, -, hi⟩ := ne_bit (s := 0) (t := s) (fun j q => by simp at q) (Ne.symm h)
  exact ⟨i, hi⟩
/-- it stands still from step n - 1 on -/
theorem itr_still {n : Nat} {nb : Nat → Nat} (h : iN n nb) {s : Nat} (hs : s < 2 ^ n) {i : Nat} (hi : n ≤ i + 1) : itr n nb s (i + 1) = itr n nb s i := by
  by_cases hz : s = 0
  · subst hz
    have h0 : ∀ k, itr n nb 0 k = 0 := by
      intro k
      induction k with
      | zero => rfl
      | succ k ih =>
        show stp n nb (itr n nb 0 k) = 0
        rw [ih]
        apply sub_as _ (fun i q => by simp at q)
        intro j q
        unfold stp at q
        rw [Nat.testBit_or, Nat.zero_testBit, Bool.false_or, arnd_bit] at q
        obtain ⟨k, -, q2, -⟩ := q
        simp at q2
    rw [h0, h0]
  obtain ⟨b, hb⟩ := pos_bit hz
  have hgrow : ∀ k, (∃ j, j < k ∧ itr n nb s (j + 1) = itr n nb s j) ∨ k + 1 ≤ cnt (itr n nb s k) n := by
    intro k
    induction k with
    | zero => right; exact cnt_pos hb n (bit_lt hs hb)
    | succ k ih =>
      rcases ih with ⟨j, hj, e⟩ | ih
      · exact Or.inl ⟨j, by omega, e⟩
      · by_cases q : itr n nb s (k + 1) = itr n nb s k
        · exact Or.inl ⟨k, by omega, q⟩
        · right
          obtain ⟨i, q1, q2⟩ := ne_bit (itr_mono n nb s (Nat.le_add_right k 1)) (Ne.symm q)
          have := cnt_lt (itr_mono n nb s (Nat.le_add_right k 1)) q1 q2 n (bit_lt (itr_lt h hs _) q2)
          omega
  rcases hgrow (i + 1) with ⟨j, hj, e⟩ | q
  · have e1 := itr_stay n nb s e (i - j)
    have e2 := itr_stay n nb s e (i + 1 - j)
    rw [show j + (i - j) = i by omega] at e1
    rw [show j + (i + 1 - j) = i + 1 by omega] at e2
    rw [e1, e2]
  · have := cnt_le (itr n nb s (i + 1)) n
    omega
theorem itr_end {n : Nat} {nb : Nat → Nat} (h : iN n nb) {s : Nat} (hs : s < 2 ^ n) {i j : Nat} (hi : n ≤ i + 1) (hj : n ≤ j + 1) : itr n nb s i = itr n nb s j := by
  rcases Nat.le_total i j with q | q
  · have := itr_stay n nb s (itr_still h hs hi) (j - i)
    rw [show i + (j - i) = j by omega] at this
    exact this.symm
  · have := itr_stay n nb s (itr_still h hs hj) (i - j)
    rw [show j + (i - j) = i by omega] at this
    exact this
/-! the pure functions -/
theorem row_lt {n : Nat} {nb : Nat → Nat} (h : iN n nb) : ∀ i, i < 8 → nb i < 256 := fun i hi => Nat.lt_of_lt_of_le (h.2.1 i hi) (pow8 h.1)
theorem set_lt {n : Nat} {nb : Nat → Nat} (h : iN n nb) {s : Nat} (hs : s < 2 ^ n) : s < 256 := Nat.lt_of_lt_of_le hs (pow8 h.1)
theorem bit_is {s k : Nat} (hs : s < 256) (hk : k < 8) : ((nI s >>> (nI k &&& 31)) &&& (1 : Int32) = 1) ↔ s.testBit k = true := by
  rw [bit_of s hs k hk]
  by_cases h : s.testBit k = true
  · rw [if_pos h]; exact ⟨fun _ => h, fun _ => rfl⟩
  · rw [if_neg h]; exact ⟨fun q => absurd q (by decide), fun q => absurd q h⟩
theorem bit_is0 {s k : Nat} (hs : s < 256) (hk : k < 8) : ((nI s >>> (nI k &&& 31)) &&& (1 : Int32) = 0) ↔ ¬ s.testBit k = true := by
  rw [bit_of s hs k hk]
  by_cases h : s.testBit k = true
  · rw [if_pos h]; exact ⟨fun q => absurd q (by decide), fun q => absurd h q⟩
  · rw [if_neg h]; exact ⟨fun _ => h, fun _ => rfl⟩
theorem around_loop {n : Nat} {nb : Nat → Nat} (h : iN n nb) {F : Nat → Int32} (hF : ∀ i, i < 8 → F i = nI (nb i)) {s : Nat} (hs : s < 2 ^ n) : ∀ (m k : Nat), k ≤ n → n + 1 ≤ k + m → fX7_around_c4 (nI n) F m (nI s) (nI (arnd nb s k)) (nI k) = some (nI (arnd nb s n)) := by
  have hn := h.1
  intro m
  induction m with
  | zero => intro k h1 h2; omega
  | succ m ih =>
    intro k h1 h2
    rw [fX7_around_c4]
    by_cases q : k = n
    · subst q; rw [if_pos (nI_le (Nat.le_refl k) (by omega))]
    · rw [if_neg (nI_ge (by omega) (by omega))]
      have hu : arnd nb s (k + 1) = arnd nb s k ||| (if s.testBit k then nb k else 0) := rfl
      by_cases r : s.testBit k = true
      · rw [if_pos ((bit_is (set_lt h hs) (by omega)).mpr r), ldx_n (by omega) (by decide), hF k (by omega), nI_or, nI_1]
        rw [if_pos r] at hu
        rw [← hu]
        exact ih (k + 1) (by omega) (by omega)
      · rw [if_neg (fun w => r ((bit_is (set_lt h hs) (by omega)).mp w)), show (0 : Int32) = nI 0 from rfl, nI_or, nI_1]
        rw [if_neg r] at hu
        rw [← hu]
        exact ih (k + 1) (by omega) (by omega)
theorem around_of {n : Nat} {nb : Nat → Nat} (h : iN n nb) {F : Nat → Int32} (hF : ∀ i, i < 8 → F i = nI (nb i)) {s : Nat} (hs : s < 2 ^ n) : fX7_around (nI n) F (nI s) = some (nI (arnd nb s n)) := by
  have := around_loop h hF hs FU 0 (Nat.zero_le _) (by have := h.1; unfold FU; omega)
  exact this
theorem step_loop {n : Nat} {nb : Nat → Nat} (h : iN n nb) {F : Nat → Int32} (hF : ∀ i, i < 8 → F i = nI (nb i)) {s : Nat} (hs : s < 2 ^ n) : ∀ (m k : Nat), k ≤ n → n + 1 ≤ k + m → fX1_oneStepFrom_c4 (nI n) F m (nI s) (nI (s ||| arnd nb s k)) (nI k) = some (nI (stp n nb s)) := by
  have hn := h.1
  intro m
  induction m with
  | zero => intro k h1 h2; omega
  | succ m ih =>
    intro k h1 h2
    rw [fX1_oneStepFrom_c4]
    by_cases q : k = n
    · subst q; rw [if_pos (nI_le (Nat.le_refl k) (by omega))]; rfl
    · rw [if_neg (nI_ge (by omega) (by omega))]
      have hu : arnd nb s (k + 1) = arnd nb s k ||| (if s.testBit k then nb k else 0) := rfl
      by_cases r : s.testBit k = true
      · rw [if_pos ((bit_is (set_lt h hs) (by omega)).mpr r), ldx_n (by omega) (by decide), hF k (by omega), nI_or, nI_1]
        rw [if_pos r] at hu
        rw [Nat.or_assoc, ← hu]
        exact ih (k + 1) (by omega) (by omega)
      · rw [if_neg (fun w => r ((bit_is (set_lt h hs) (by omega)).mp w)), nI_1]
        rw [if_neg r, Nat.or_zero] at hu
        rw [← hu]
        exact ih (k + 1) (by omega) (by omega)
theorem step_of {n : Nat} {nb : Nat → Nat} (h : iN n nb) {F : Nat → Int32} (hF : ∀ i, i < 8 → F i = nI (nb i)) {s : Nat} (hs : s < 2 ^ n) : fX1_oneStepFrom (nI n) F (nI s) = some (nI (stp n nb s)) := by
  have := step_loop h hF hs FU 0 (Nat.zero_le _) (by have := h.1; unfold FU; omega)
  rw [show s ||| arnd nb s 0 = s from Nat.or_zero s] at this
  exact this
/-- what can be come to -/
def rch (n : Nat) (nb : Nat → Nat) (s : Nat) : Nat := itr n nb s 8
theorem rch_lt {n : Nat} {nb : Nat → Nat} (h : iN n nb) {s : Nat} (hs : s < 2 ^ n) : rch n nb s < 2 ^ n := itr_lt h hs 8
theorem mreach_loop {n : Nat} {nb : Nat → Nat} (h : iN n nb) {F : Nat → Int32} (hF : ∀ i, i < 8 → F i = nI (nb i)) {s : Nat} (hs : s < 2 ^ n) : ∀ (m k : Nat), k ≤ 8 → 9 ≤ k + m → fX7_reach_c4 (nI n) F m (nI (itr n nb s k)) (nI k) = some (nI (rch n nb s)) := by
  intro m
  induction m with
  | zero => intro k h1 h2; omega
  | succ m ih =>
    intro k h1 h2
    rw [fX7_reach_c4]
    by_cases q : k = 8
    · subst q; rw [if_pos (show (8 : Int32) ≤ nI 8 from nI_le (Nat.le_refl 8) (by decide))]; rfl
    · rw [if_neg (show ¬ (8 : Int32) ≤ nI k from nI_ge (show k < 8 by omega) (by decide)), around_of h hF (itr_lt h hs k), bd1_i, nI_or, nI_1]
      exact ih (k + 1) (by omega) (by omega)
theorem mreach_of {n : Nat} {nb : Nat → Nat} (h : iN n nb) {F : Nat → Int32} (hF : ∀ i, i < 8 → F i = nI (nb i)) {s : Nat} (hs : s < 2 ^ n) : fX7_reach (nI n) F (nI s) = some (nI (rch n nb s)) :=
  mreach_loop h hF hs FU 0 (by decide) (by decide)
theorem xreach_loop {n : Nat} {nb : Nat → Nat} (h : iN n nb) {F : Nat → Int32} (hF : ∀ i, i < 8 → F i = nI (nb i)) {s : Nat} (hs : s < 2 ^ n) : ∀ (m k : Nat), k ≤ 8 → n + 1 ≤ k + 1 + m → 1 ≤ m → fX1_reachOf_c4 (nI n) F m (nI (itr n nb s k)) (nI (k + 1)) = some (nI (itr n nb s (max k (n - 1)))) := by
  have hn := h.1
  intro m
  induction m with
  | zero => intro k h1 h2 h3; omega
  | succ m ih =>
    intro k h1 h2 h3
    rw [fX1_reachOf_c4]
    by_cases q : n ≤ k + 1
    · rw [if_pos (nI_le q (by omega)), show max k (n - 1) = k by omega]
    · rw [if_neg (nI_ge (by omega) (by omega)), step_of h hF (itr_lt h hs k), bd1_i, nI_1]
      have := ih (k + 1) (by omega) (by omega) (by omega)
      rw [show max (k + 1) (n - 1) = max k (n - 1) by omega] at this
      exact this
theorem xreach_of {n : Nat} {nb : Nat → Nat} (h : iN n nb) {F : Nat → Int32} (hF : ∀ i, i < 8 → F i = nI (nb i)) {s : Nat} (hs : s < 2 ^ n) : fX1_reachOf (nI n) F (nI s) = some (nI (rch n nb s)) := by
  have hn := h.1
  have := xreach_loop h hF hs FU 0 (by decide) (by unfold FU; omega) (by decide)
  rw [itr_end h hs (i := max 0 (n - 1)) (j := 8) (by omega) (by omega)] at this
  exact this
/-! FAR -/
def srch (P : Nat → Bool) : Nat → Nat → Option Nat
  | 0, _ => none
  | c + 1, k => if P k then some k else srch P c (k + 1)
theorem srch_some {P : Nat → Bool} : ∀ (c k j : Nat), srch P c k = some j ↔ (k ≤ j ∧ j < k + c ∧ P j = true ∧ ∀ i, k ≤ i → i < j → P i = false)
  | 0, k, j => by
    unfold srch
    constructor
    · intro h; cases h
    · intro h; omega
  | c + 1, k, j => by
    unfold srch
    by_cases h : P k = true
    · rw [if_pos h]
      constructor
      · intro q; cases q; exact ⟨Nat.le_refl _, by omega, h, fun i q1 q2 => by omega⟩
      · rintro ⟨q1, q2, q3, q4⟩
        by_cases q : k = j
        · rw [q]
        · have := q4 k (Nat.le_refl _) (by omega); rw [h] at this; cases this
    · rw [if_neg h, srch_some c (k + 1) j]
      constructor
      · rintro ⟨q1, q2, q3, q4⟩
        refine ⟨by omega, by omega, q3, fun i r1 r2 => ?_⟩
        by_cases r : i = k
        · subst r; simpa using h
        · exact q4 i (by omega) r2
      · rintro ⟨q1, q2, q3, q4⟩
        have : k ≠ j := fun e => by subst e; exact h q3
        exact ⟨by omega, by omega, q3, fun i r1 r2 => q4 i (by omega) r2⟩
theorem srch_none {P : Nat → Bool} : ∀ (c k : Nat), srch P c k = none ↔ ∀ i, k ≤ i → i < k + c → P i = false
  | 0, k => by
    unfold srch
    exact ⟨fun _ i h1 h2 => by omega, fun _ => rfl⟩
  | c + 1, k => by
    unfold srch
    by_cases h : P k = true
    · rw [if_pos h]
      constructor
      · intro q; cases q
      · intro q; have := q k (Nat.le_refl _) (by omega); rw [h] at this; cases this
    · rw [if_neg h, srch_none c (k + 1)]
      constructor
      · intro q i r1 r2
        by_cases r : i = k
        · subst r; simpa using h
        · exact q i (by omega) (by omega)
      · intro q i r1 r2; exact q i (by omega) (by omega)
/-- FAR of b from a: the first step at which b is come to -/
def dst (n : Nat) (nb : Nat → Nat) (a b : Nat) : Option Nat := srch (fun k => (itr n nb (2 ^ a) k).testBit b) 8 0
def oN (o : Option Nat) : Int32 := match o with
  | none => -1000000
  | some k => nI k
theorem p2_lt {n a : Nat} (ha : a < n) : 2 ^ a < 2 ^ n := Nat.pow_lt_pow_right (by decide) ha
theorem dst_n {n : Nat} {nb : Nat → Nat} (h : iN n nb) {a b : Nat} (ha : a < n) : srch (fun k => (itr n nb (2 ^ a) k).testBit b) n 0 = dst n nb a b := by
  have hn := h.1
  unfold dst
  cases e : srch (fun k => (itr n nb (2 ^ a) k).testBit b) n 0 with
  | some j =>
    obtain ⟨q1, q2, q3, q4⟩ := (srch_some n 0 j).mp e
    exact ((srch_some 8 0 j).mpr ⟨q1, by omega, q3, q4⟩).symm
  | none =>
    have q := (srch_none n 0).mp e
    refine ((srch_none 8 0).mpr (fun i h1 h2 => ?_)).symm
    by_cases r : i < n
    · exact q i h1 (by omega)
    · show (itr n nb (2 ^ a) i).testBit b = false
      rw [itr_end h (p2_lt ha) (i := i) (j := n - 1) (by omega) (by omega)]
      exact q (n - 1) (Nat.zero_le _) (by omega)
theorem mfar_loop {n : Nat} {nb : Nat → Nat} (h : iN n nb) {F : Nat → Int32} (hF : ∀ i, i < 8 → F i = nI (nb i)) {s b : Nat} (hs : s < 2 ^ n) (hb : b < 8) : ∀ (m c k : Nat), k + c = 8 → c + 1 ≤ m → fX7_farOf_c7 (nI n) F m (nI b) (nI (itr n nb s k)) (nI k) = some (oN (srch (fun k => (itr n nb s k).testBit b) c k)) := by
  intro m
  induction m with
  | zero => intro c k h1 h2; omega
  | succ m ih =>
    intro c k h1 h2
    rw [fX7_farOf_c7]
    cases c with
    | zero =>
      rw [show k = 8 by omega, if_pos (show (8 : Int32) ≤ nI 8 from nI_le (Nat.le_refl 8) (by decide))]; rfl
    | succ c =>
      rw [if_neg (show ¬ (8 : Int32) ≤ nI k from nI_ge (show k < 8 by omega) (by decide))]
      unfold srch
      by_cases r : (itr n nb s k).testBit b = true
      · rw [if_pos ((bit_is (set_lt h (itr_lt h hs k)) hb).mpr r), if_pos r]; rfl
      · rw [if_neg (fun w => r ((bit_is (set_lt h (itr_lt h hs k)) hb).mp w)), if_neg r, around_of h hF (itr_lt h hs k), bd1_i, nI_or, nI_1]
        exact ih c (k + 1) (by omega) (by omega)
theorem mfar_of {n : Nat} {nb : Nat → Nat} (h : iN n nb) {F : Nat → Int32} (hF : ∀ i, i < 8 → F i = nI (nb i)) {a b : Nat} (ha : a < n) (hb : b < 8) : fX7_farOf (nI n) F (nI a) (nI b) = some (oN (dst n nb a b)) := by
  have hn := h.1
  unfold fX7_farOf
  rw [sh1 a (by omega), bnd_i]
  exact mfar_loop h hF (p2_lt ha) hb FU 8 0 (by decide) (by decide)
theorem xfar_loop {n : Nat} {nb : Nat → Nat} (h : iN n nb) {F : Nat → Int32} (hF : ∀ i, i < 8 → F i = nI (nb i)) {s b : Nat} (hs : s < 2 ^ n) (hb : b < 8) : ∀ (m c k : Nat), k + c = n → c + 1 ≤ m → fX1_stepsBetween_c7 (nI n) F m (nI b) (nI (itr n nb s k)) (nI k) = some (oN (srch (fun k => (itr n nb s k).testBit b) c k)) := by
  have hn := h.1
  intro m
  induction m with
  | zero => intro c k h1 h2; omega
  | succ m ih =>
    intro c k h1 h2
    rw [fX1_stepsBetween_c7]
    cases c with
    | zero =>
      rw [if_pos (nI_le (by omega) (by omega))]; rfl
    | succ c =>
      rw [if_neg (nI_ge (by omega) (by omega))]
      unfold srch
      by_cases r : (itr n nb s k).testBit b = true
      · rw [if_pos ((bit_is (set_lt h (itr_lt h hs k)) hb).mpr r), if_pos r]; rfl
      · rw [if_neg (fun w => r ((bit_is (set_lt h (itr_lt h hs k)) hb).mp w)), if_neg r, step_of h hF (itr_lt h hs k), bd1_i, nI_1]
        exact ih c (k + 1) (by omega) (by omega)
theorem xfar_of {n : Nat} {nb : Nat → Nat} (h : iN n nb) {F : Nat → Int32} (hF : ∀ i, i < 8 → F i = nI (nb i)) {a b : Nat} (ha : a < n) (hb : b < 8) : fX1_stepsBetween (nI n) F (nI a) (nI b) = some (oN (dst n nb a b)) := by
  have hn := h.1
  unfold fX1_stepsBetween
  rw [sh1 a (by omega), bnd_i, ← dst_n h ha]
  exact xfar_loop h hF (p2_lt ha) hb FU n 0 (by omega) (by unfold FU; omega)
theorem st_far {B_latestFinding : Int32} {B_latestFault : Int32} {S_lanes : Nat → Int32} {S_sizes : Nat → Int32} {S_rows : Nat → Nat → Int32} {N_posts : Int32} {N_neighbours : Nat → Int32} {R_length : Int32} {R_tape : Nat → Int32} {T_size : Int32} {T_rounds : Nat → Int32} {K_length : Int32} {K_begun : Nat → Int32} {M_status : Int32} {M_posts : Int32} {M_rounds : Int32} {M_taped : Int32} {M_latest : Int32} {M_traced : Int32} {M_lane : Nat → Int32} {M_many : Nat → Int32} {M_item : Nat → Int32} {M_beside : Nat → Int32} {M_round : Nat → Int32} {M_tape : Nat → Int32} {M_trace : Nat → Int32} (hI : Inv B_latestFinding B_latestFault S_lanes S_sizes S_rows N_posts N_neighbours R_length R_tape T_size T_rounds K_length K_begun M_status M_posts M_rounds M_taped M_latest M_traced M_lane M_many M_item M_beside M_round M_tape M_trace) (p0 : Int32) (p1 : Int32) (M_thrown : Int32) : ∃ (rr : Int32) (M_thrown_z : Int32), fX6_far N_posts N_neighbours p0 p1 = some rr ∧ fX7_far M_thrown M_posts M_beside p0 p1 = some (rr, M_thrown_z) ∧ Inv B_latestFinding B_latestFault S_lanes S_sizes S_rows N_posts N_neighbours R_length R_tape T_size T_rounds K_length K_begun M_status M_posts M_rounds M_taped M_latest M_traced M_lane M_many M_item M_beside M_round M_tape M_trace := by
  obtain ⟨n, nb, ⟨hN, eN, eM, h4⟩, hS, hT, hTT, hTr, e1, e2⟩ := id hI
  have hn := hN.1
  rcases post_cases p0 hn with ⟨a, ha, rfl, ha1, ha2⟩ | ⟨ha1, ha2⟩
  case inr =>
    refine ⟨-1000001, 0, ?_, ?_, hI⟩
    · unfold fX6_far
      rw [eN, ha1, bd1_i, if_pos rfl]
    · unfold fX7_far
      rw [eM, ha2, bd1_i, if_pos rfl]
  rcases post_cases p1 hn with ⟨b, hb, rfl, hb1, hb2⟩ | ⟨hb1, hb2⟩
  case inr =>
    refine ⟨-1000001, 0, ?_, ?_, hI⟩
    · unfold fX6_far
      rw [eN, ha1, bd1_i, if_neg (by decide), hb1, bd1_i, if_pos rfl]
    · unfold fX7_far
      rw [eM, ha2, bd1_i, if_neg (by decide), hb2, bd1_i, if_pos rfl]
  refine ⟨oN (dst n nb a b), 0, ?_, ?_, hI⟩
  · unfold fX6_far
    rw [eN, ha1, bd1_i, if_neg (by decide), hb1, bd1_i, if_neg (by decide), xfar_of hN (fun i hi => (h4 i hi).1) ha (by omega), bd1_i]
  · unfold fX7_far
    rw [eM, ha2, bd1_i, if_neg (by decide), hb2, bd1_i, if_neg (by decide), mfar_of hN (fun i hi => (h4 i hi).2) ha (by omega), bd1_i]
/-! WIDTH -/
def wdt (n : Nat) (nb : Nat → Nat) (s : Nat) : Nat → Nat
  | 0 => 0
  | k + 1 => if itr n nb s (k + 1) = itr n nb s k then wdt n nb s k else k + 1
theorem wdt_le (n : Nat) (nb : Nat → Nat) (s : Nat) : ∀ k, wdt n nb s k ≤ k
  | 0 => Nat.le_refl 0
  | k + 1 => by
    unfold wdt
    have := wdt_le n nb s k
    split <;> omega
theorem wdt_ge (n : Nat) (nb : Nat → Nat) (s : Nat) {j : Nat} (hj : ¬ itr n nb s (j + 1) = itr n nb s j) : ∀ k, j + 1 ≤ k → j + 1 ≤ wdt n nb s k
  | 0, h => by omega
  | k + 1, h => by
    unfold wdt
    by_cases q : k = j
    · subst q; rw [if_neg hj]; exact Nat.le_refl _
    · have := wdt_ge n nb s hj k (by omega)
      split <;> omega
theorem wdt_at (n : Nat) (nb : Nat → Nat) (s : Nat) : ∀ k, wdt n nb s k = 0 ∨ ∃ j, wdt n nb s k = j + 1 ∧ ¬ itr n nb s (j + 1) = itr n nb s j
  | 0 => Or.inl rfl
  | k + 1 => by
    unfold wdt
    by_cases q : itr n nb s (k + 1) = itr n nb s k
    · rw [if_pos q]; exact wdt_at n nb s k
    · rw [if_neg q]; exact Or.inr ⟨k, rfl, q⟩
theorem xwid_loop {n : Nat} {nb : Nat → Nat} (h : iN n nb) {F : Nat → Int32} (hF : ∀ i, i < 8 → F i = nI (nb i)) {s : Nat} (hs : s < 2 ^ n) : ∀ (m k : Nat), k ≤ 8 → n + 1 ≤ k + 1 + m → 1 ≤ m → fX1_width_c9 (nI n) F m (nI (itr n nb s k)) (nI (wdt n nb s k)) (nI (k + 1)) = some (nI (wdt n nb s (max k (n - 1)))) := by
  have hn := h.1
  intro m
  induction m with
  | zero => intro k h1 h2 h3; omega
  | succ m ih =>
    intro k h1 h2 h3
    rw [fX1_width_c9]
    by_cases q : n ≤ k + 1
    · rw [if_pos (nI_le q (by omega)), show max k (n - 1) = k by omega]
    · rw [if_neg (nI_ge (by omega) (by omega)), step_of h hF (itr_lt h hs k), bd1_i]
      unfold fX1_width_c37
      have hi := ih (k + 1) (by omega) (by omega) (by omega)
      rw [show max (k + 1) (n - 1) = max k (n - 1) by omega] at hi
      have hstep : itr n nb s (k + 1) = stp n nb (itr n nb s k) := rfl
      have hw : wdt n nb s (k + 1) = if itr n nb s (k + 1) = itr n nb s k then wdt n nb s k else k + 1 := rfl
      by_cases r : itr n nb s (k + 1) = itr n nb s k
      · rw [if_pos r] at hw
        rw [← hstep, if_pos (by rw [r]), nI_1]
        rw [hw] at hi
        exact hi
      · rw [if_neg r] at hw
        rw [← hstep, if_neg (fun w => r ((nI_eq (Nat.lt_trans (set_lt h (itr_lt h hs (k + 1))) (by decide)) (Nat.lt_trans (set_lt h (itr_lt h hs k)) (by decide))).mp w)), nI_1]
        rw [hw] at hi
        exact hi
theorem xwid_of {n : Nat} {nb : Nat → Nat} (h : iN n nb) {F : Nat → Int32} (hF : ∀ i, i < 8 → F i = nI (nb i)) {a : Nat} (ha : a < n) : fX1_width (nI n) F (nI a) = some (nI (wdt n nb (2 ^ a) (n - 1))) := by
  have hn := h.1
  unfold fX1_width
  rw [sh1 a (by omega), bnd_i]
  have := xwid_loop h hF (p2_lt ha) FU 0 (by decide) (by unfold FU; omega) (by decide)
  rw [show max 0 (n - 1) = n - 1 by omega] at this
  exact this
def mxf (n : Nat) (nb : Nat → Nat) (a : Nat) : Nat → Nat
  | 0 => 0
  | b + 1 => match dst n nb a b with
    | none => mxf n nb a b
    | some k => if k ≤ mxf n nb a b then mxf n nb a b else k
theorem dst_le {n : Nat} {nb : Nat → Nat} {a b k : Nat} (h : dst n nb a b = some k) : k < 8 := by
  have := ((srch_some 8 0 k).mp h).2.1
  omega
theorem mxf_le (n : Nat) (nb : Nat → Nat) (a : Nat) : ∀ b, mxf n nb a b ≤ 8
  | 0 => by unfold mxf; omega
  | b + 1 => by
    unfold mxf
    have := mxf_le n nb a b
    cases e : dst n nb a b with
    | none => exact this
    | some k =>
      have := dst_le e
      show (if k ≤ mxf n nb a b then mxf n nb a b else k) ≤ 8
      split <;> omega
theorem mwid_loop {n : Nat} {nb : Nat → Nat} (h : iN n nb) {F : Nat → Int32} (hF : ∀ i, i < 8 → F i = nI (nb i)) {a : Nat} (ha : a < n) : ∀ (m b : Nat), b ≤ n → n + 1 ≤ b + m → fX7_widthOf_c4 (nI n) F m (nI a) (nI (mxf n nb a b)) (nI b) = some (nI (mxf n nb a n)) := by
  have hn := h.1
  intro m
  induction m with
  | zero => intro b h1 h2; omega
  | succ m ih =>
    intro b h1 h2
    rw [fX7_widthOf_c4]
    by_cases q : b = n
    · subst q; rw [if_pos (nI_le (Nat.le_refl b) (by omega))]
    · rw [if_neg (nI_ge (by omega) (by omega)), mfar_of h hF ha (by omega), bd1_i, bd1_i, nI_1]
      have hi := ih (b + 1) (by omega) (by omega)
      have hb8 := mxf_le n nb a b
      have hu : mxf n nb a (b + 1) = (match dst n nb a b with
        | none => mxf n nb a b
        | some k => if k ≤ mxf n nb a b then mxf n nb a b else k) := rfl
      cases e : dst n nb a b with
      | none =>
        rw [e] at hu
        rw [hu] at hi
        rw [if_pos]
        · exact hi
        · show (-1000000 : Int32) ≤ nI (mxf n nb a b)
          rw [i32_le, nI_toInt (by omega), show (-1000000 : Int32).toInt = -1000000 from by decide]
          omega
      | some k =>
        have hk := dst_le e
        rw [e] at hu
        show (if nI k ≤ nI (mxf n nb a b) then _ else fX7_widthOf_c4 (nI n) F m (nI a) (nI k) (nI (b + 1))) = _
        by_cases r : k ≤ mxf n nb a b
        · rw [show (match some k with
            | none => mxf n nb a b
            | some k => if k ≤ mxf n nb a b then mxf n nb a b else k) = mxf n nb a b from if_pos r] at hu
          rw [hu] at hi
          rw [if_pos (nI_le r (by omega))]
          exact hi
        · rw [show (match some k with
            | none => mxf n nb a b
            | some k => if k ≤ mxf n nb a b then mxf n nb a b else k) = k from if_neg r] at hu
          rw [hu] at hi
          rw [if_neg (nI_ge (by omega) (by omega))]
          exact hi
theorem mxf_ge {n : Nat} {nb : Nat → Nat} {a b k : Nat} (e : dst n nb a b = some k) : ∀ m, b < m → k ≤ mxf n nb a m
  | 0, h => by omega
  | m + 1, h => by
    unfold mxf
    by_cases q : m = b
    · subst q; rw [e]
      show k ≤ (if k ≤ mxf n nb a m then mxf n nb a m else k)
      split <;> omega
    · have := mxf_ge e m (by omega)
      cases e2 : dst n nb a m with
      | none => exact this
      | some j =>
        show k ≤ (if j ≤ mxf n nb a m then mxf n nb a m else j)
        split <;> omega
theorem mxf_at (n : Nat) (nb : Nat → Nat) (a : Nat) : ∀ m, mxf n nb a m = 0 ∨ ∃ b, b < m ∧ dst n nb a b = some (mxf n nb a m)
  | 0 => Or.inl rfl
  | m + 1 => by
    unfold mxf
    cases e : dst n nb a m with
    | none =>
      rcases mxf_at n nb a m with q | ⟨b, hb, q⟩
      · exact Or.inl q
      · exact Or.inr ⟨b, by omega, q⟩
    | some k =>
      show (if k ≤ mxf n nb a m then mxf n nb a m else k) = 0 ∨ ∃ b, b < m + 1 ∧ dst n nb a b = some (if k ≤ mxf n nb a m then mxf n nb a m else k)
      by_cases r : k ≤ mxf n nb a m
      · rw [if_pos r]
        rcases mxf_at n nb a m with q | ⟨b, hb, q⟩
        · exact Or.inl q
        · exact Or.inr ⟨b, by omega, q⟩
      · rw [if_neg r]; exact Or.inr ⟨m, by omega, e⟩
theorem wid_eq {n : Nat} {nb : Nat → Nat} (h : iN n nb) {a : Nat} (ha : a < n) : mxf n nb a n = wdt n nb (2 ^ a) (n - 1) := by
  have hn := h.1
  apply Nat.le_antisymm
  · rcases mxf_at n nb a n with q | ⟨b, hb, q⟩
    · rw [q]; exact Nat.zero_le _
    · generalize mxf n nb a n = k at q
      have q' := q
      rw [← dst_n h ha] at q'
      obtain ⟨r1, r2, r3, r4⟩ := (srch_some n 0 k).mp q'
      cases k with
      | zero => exact Nat.zero_le _
      | succ k =>
        refine wdt_ge n nb (2 ^ a) (j := k) (fun e => ?_) (n - 1) (by omega)
        have := r4 k (Nat.zero_le _) (by omega)
        rw [← e] at this
        rw [r3] at this
        cases this
  · rcases wdt_at n nb (2 ^ a) (n - 1) with q | ⟨j, q, r⟩
    · rw [q]; exact Nat.zero_le _
    · rw [q]
      have hj := wdt_le n nb (2 ^ a) (n - 1)
      obtain ⟨b, b1, b2⟩ := ne_bit (itr_mono n nb (2 ^ a) (Nat.le_add_right j 1)) (Ne.symm r)
      have hb : b < n := bit_lt (itr_lt h (p2_lt ha) _) b2
      refine mxf_ge (b := b) ?_ n hb
      refine (srch_some 8 0 (j + 1)).mpr ⟨Nat.zero_le _, by omega, b2, fun i _ h2 => ?_⟩
      show (itr n nb (2 ^ a) i).testBit b = false
      cases e : (itr n nb (2 ^ a) i).testBit b
      · rfl
      · exact absurd (itr_mono n nb (2 ^ a) (show i ≤ j by omega) b e) b1
theorem mwid_of {n : Nat} {nb : Nat → Nat} (h : iN n nb) {F : Nat → Int32} (hF : ∀ i, i < 8 → F i = nI (nb i)) {a : Nat} (ha : a < n) : fX7_widthOf (nI n) F (nI a) = some (nI (wdt n nb (2 ^ a) (n - 1))) := by
  have hn := h.1
  rw [← wid_eq h ha]
  exact mwid_loop h hF ha FU 0 (Nat.zero_le _) (by unfold FU; omega)
