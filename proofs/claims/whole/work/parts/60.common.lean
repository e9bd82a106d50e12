/-! what least, jammed and draws share: listening, closed sets, subsets in falling order -/
theorem listen_loop {n : Nat} {nb : Nat → Nat} (h : iN n nb) {F : Nat → Int32} (hF : ∀ i, i < 8 → F i = nI (nb i)) {x : Int32} (hx : x = 0 ∨ x = 1) : ∀ (m k : Nat) (Q : Nat → Int32), k ≤ 2 ^ n → 2 ^ n + 1 ≤ k + m → (∀ t, t < k → Q t = nI (hea x n nb t)) → ∃ Q' : Nat → Int32, fX3_listen_c2 (nI n) F m Q x (nI k) = some Q' ∧ ∀ t, t < 2 ^ n → Q' t = nI (hea x n nb t) := by
  have hn := h.1
  have h8 := pow8 hn
  have h2 : 0 < 2 ^ n := Nat.two_pow_pos n
  intro m
  induction m with
  | zero => intro k Q h1 h2; omega
  | succ m ih =>
    intro k Q h1 h2 h3
    rw [fX3_listen_c2]
    unfold fX1_allPosts
    rw [bd1_i, all_of n (by omega)]
    by_cases q : k = 2 ^ n
    · rw [if_pos (nI_lt (by omega) (by omega))]
      exact ⟨Q, rfl, fun t ht => h3 t (by omega)⟩
    · rw [if_neg (nI_nlt (by omega) (by omega)), xhear_of h hF hx (by omega), bd1_i, sti_n (by omega) (by decide), nI_1]
      refine ih (k + 1) _ (by omega) (by omega) (fun t ht => ?_)
      by_cases r : t = k
      · subst r; rw [upd_eq]
      · rw [upd_ne _ _ r]; exact h3 t (by omega)
theorem listen_of {n : Nat} {nb : Nat → Nat} (h : iN n nb) {F : Nat → Int32} (hF : ∀ i, i < 8 → F i = nI (nb i)) {x : Int32} (hx : x = 0 ∨ x = 1) (Q : Nat → Int32) : ∃ Q' : Nat → Int32, fX3_listen (nI n) F Q x = some Q' ∧ ∀ t, t < 2 ^ n → Q' t = nI (hea x n nb t) :=
  listen_loop h hF hx FU 0 Q (Nat.zero_le _) (by have := pow8 h.1; unfold FU; omega) (fun t ht => by omega)
/-! subsets -/
theorem sub_and {s t : Nat} : sub s t ↔ s &&& t = s := by
  constructor
  · intro h
    apply Nat.eq_of_testBit_eq
    intro i
    rw [Nat.testBit_and]
    cases q : s.testBit i
    · rfl
    · rw [h i q]; rfl
  · intro h i q
    rw [← h, Nat.testBit_and, Bool.and_eq_true] at q
    exact q.2
theorem sub_le {s t : Nat} (h : sub s t) : s ≤ t := by
  rw [← sub_and.mp h]; exact Nat.and_le_right
theorem sub_andr (s t : Nat) : sub (s &&& t) t := fun i q => by
  rw [Nat.testBit_and, Bool.and_eq_true] at q; exact q.2
theorem sub_andl (s t : Nat) : sub (s &&& t) s := fun i q => by
  rw [Nat.testBit_and, Bool.and_eq_true] at q; exact q.1
theorem sub_or2 {s t u : Nat} (h : sub s u) (g : sub t u) : sub (s ||| t) u := fun i q => by
  rw [Nat.testBit_or, Bool.or_eq_true] at q
  exact q.elim (h i) (g i)
theorem and_dec (a b : Nat) : a &&& b = 2 * ((a / 2) &&& (b / 2)) + (if a % 2 = 1 ∧ b % 2 = 1 then 1 else 0) := by
  have h1 : (a &&& b) / 2 = (a / 2) &&& (b / 2) := by
    have := Nat.and_div_two_pow (a := a) (b := b) (n := 1)
    simpa using this
  have h2 : (a &&& b) % 2 = if a % 2 = 1 ∧ b % 2 = 1 then 1 else 0 := by
    have := Nat.and_mod_two_pow (a := a) (b := b) (n := 1)
    rw [Nat.pow_one] at this
    rw [this]
    rcases Nat.mod_two_eq_zero_or_one a with e | e <;> rcases Nat.mod_two_eq_zero_or_one b with g | g <;> rw [e, g] <;> decide
  omega
/-- the subset next below -/
theorem sub_next : ∀ (n x k t : Nat), x < 2 ^ n → x &&& k = x → t &&& k = t → t < x → t ≤ (x - 1) &&& k
  | 0, x, k, t, h0, h1, h2, h3 => by omega
  | n + 1, x, k, t, h0, h1, h2, h3 => by
    have d1 := and_dec x k
    have d2 := and_dec t k
    have d3 := and_dec (x - 1) k
    rw [h1] at d1
    rw [h2] at d2
    have p : 2 ^ (n + 1) = 2 * 2 ^ n := by rw [Nat.pow_succ]; omega
    rcases Nat.mod_two_eq_zero_or_one x with e | e
    · have e1 : (x - 1) / 2 = x / 2 - 1 := by omega
      have e2 : (x - 1) % 2 = 1 := by omega
      have k1 : x / 2 &&& k / 2 = x / 2 := by
        have : ¬ (x % 2 = 1 ∧ k % 2 = 1) := by omega
        rw [if_neg this] at d1; omega
      have k2 : t / 2 &&& k / 2 = t / 2 := by
        by_cases c : t % 2 = 1 ∧ k % 2 = 1
        · rw [if_pos c] at d2; omega
        · rw [if_neg c] at d2; omega
      have ih := sub_next n (x / 2) (k / 2) (t / 2) (by omega) k1 k2 (by omega)
      rw [e1] at d3
      have : t % 2 = 1 → k % 2 = 1 := by
        intro q
        by_cases c : k % 2 = 1
        · exact c
        · rw [if_neg (fun w => c w.2)] at d2; omega
      by_cases c : k % 2 = 1
      · rw [if_pos ⟨e2, c⟩] at d3; omega
      · rw [if_neg (fun w => c w.2)] at d3
        have : ¬ t % 2 = 1 := fun w => c (this w)
        omega
    · have e1 : (x - 1) / 2 = x / 2 := by omega
      have k1 : x / 2 &&& k / 2 = x / 2 := by
        by_cases c : x % 2 = 1 ∧ k % 2 = 1
        · rw [if_pos c] at d1; omega
        · rw [if_neg c] at d1; omega
      rw [e1, k1] at d3
      split at d3 <;> omega
/-! who hears of nobody; sets that are closed -/
theorem cnt_0 : ∀ n, cnt 0 n = 0
  | 0 => rfl
  | n + 1 => by unfold cnt; rw [cnt_0 n]; simp
theorem hea_0 {x : Int32} (hx : x = 0 ∨ x = 1) (n : Nat) (nb : Nat → Nat) : hea x n nb 0 = 0 := by
  apply sub_as _ (fun i q => by simp at q)
  intro i q
  rw [hrs_bit, Bool.and_eq_true] at q
  have q2 := q.2
  unfold hP at q2
  rw [Nat.and_zero, cnt_0] at q2
  rcases hx with rfl | rfl
  · rw [if_pos rfl] at q2; simp at q2
  · rw [if_neg (by decide)] at q2; simp at q2
theorem cnt_some {v : Nat} : ∀ {n : Nat}, 1 ≤ cnt v n → ∃ i, i < n ∧ v.testBit i = true
  | 0, h => by unfold cnt at h; omega
  | n + 1, h => by
    unfold cnt at h
    by_cases q : v.testBit n = true
    · exact ⟨n, by omega, q⟩
    · rw [if_neg q] at h
      obtain ⟨i, h1, h2⟩ := cnt_some (n := n) (by omega)
      exact ⟨i, by omega, h2⟩
/-- who hears has a neighbour that sounds -/
theorem hea_adj {x : Int32} (hx : x = 0 ∨ x = 1) {n : Nat} {nb : Nat → Nat} (h : iN n nb) {s i : Nat} (q : (hea x n nb s).testBit i = true) : i < n ∧ ∃ k, k < n ∧ s.testBit k = true ∧ (nb k).testBit i = true := by
  have hn := h.1
  rw [hrs_bit, Bool.and_eq_true] at q
  have hi : i < n := by simpa using q.1
  have q2 := q.2
  unfold hP at q2
  rw [Bool.and_eq_true] at q2
  have hc : 1 ≤ cnt (nb i &&& s) n := by
    have q3 := q2.2
    rcases hx with rfl | rfl
    · rw [if_pos rfl] at q3; simpa using q3
    · rw [if_neg (by decide)] at q3
      have : cnt (nb i &&& s) n = 1 := by simpa using q3
      omega
  obtain ⟨k, k1, k2⟩ := cnt_some hc
  rw [Nat.testBit_and, Bool.and_eq_true] at k2
  refine ⟨hi, k, k1, k2.2, ?_⟩
  rw [h.2.2.1 k i (by omega) (by omega)]; exact k2.1
theorem rch_stp {n : Nat} {nb : Nat → Nat} (h : iN n nb) {s : Nat} (hs : s < 2 ^ n) : stp n nb (rch n nb s) = rch n nb s := by
  have := itr_still h hs (i := 8) (by have := h.1; omega)
  exact this
theorem rch_sub (n : Nat) (nb : Nat → Nat) (s : Nat) : sub s (rch n nb s) := itr_mono n nb s (i := 0) (j := 8) (by omega)
/-- word stays inside of what can be come to -/
theorem spr_in {x : Int32} (hx : x = 0 ∨ x = 1) {n : Nat} {nb : Nat → Nat} (h : iN n nb) {g k s : Nat} (hg : stp n nb g = g) (hk : sub k g) : sub (spr x n nb k s) g := by
  apply sub_or2 hk
  intro i q
  obtain ⟨h1, j, h2, h3, h4⟩ := hea_adj hx h q
  have : (stp n nb g).testBit i = true := by
    unfold stp
    rw [Nat.testBit_or, Bool.or_eq_true]
    right
    rw [arnd_bit]
    exact ⟨j, h2, hk j (sub_andl k s j h3), h4⟩
  rw [hg] at this
  exact this
theorem spr_sub (x : Int32) (n : Nat) (nb : Nat → Nat) (k s : Nat) : sub k (spr x n nb k s) := sub_or _ _
theorem spr_end {x : Int32} (hx : x = 0 ∨ x = 1) {n : Nat} {nb : Nat → Nat} (h : iN n nb) {g s : Nat} (hg : stp n nb g = g) : spr x n nb g s = g :=
  sub_as (spr_in hx h hg (sub_rf g)) (spr_sub _ _ _ _ _)
theorem spr_and (x : Int32) (n : Nat) (nb : Nat → Nat) (k s : Nat) : spr x n nb k s = spr x n nb k (s &&& k) := by
  unfold spr
  rw [Nat.and_comm s k, ← Nat.and_assoc, Nat.and_self]
theorem spr_of_sub (x : Int32) (n : Nat) (nb : Nat → Nat) {k t : Nat} (h : t &&& k = t) : spr x n nb k t = k ||| hea x n nb t := by
  unfold spr
  rw [Nat.and_comm, h]
theorem spr_0 {x : Int32} (hx : x = 0 ∨ x = 1) (n : Nat) (nb : Nat → Nat) (k : Nat) : spr x n nb k 0 = k := by
  unfold spr
  rw [Nat.and_zero, hea_0 hx, Nat.or_zero]
theorem nI_dec {j : Nat} (h : 1 ≤ j) : nI j - 1 = nI (j - 1) := by rw [show (1 : Int32) = nI 1 from rfl, pk_sub h]
