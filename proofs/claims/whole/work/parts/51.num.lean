/-! numbers: what the combinators give on known numbers -/
theorem bnd_i {α β : Type} (a : α) (k : α → Option β) : bnd a k = k a := rfl
theorem ldx_n {α β : Type} {n j : Nat} {f : Nat → α} {k : α → Option β} (h : j < n) (hn : n < 2 ^ 31) : ldx n f (nI j) k = k (f j) := by
  unfold ldx
  rw [if_pos (in_ib (vp_in_nI h hn)), nI_clamp (by omega)]
theorem sti_n {β : Type} {n j : Nat} {f : Nat → Int32} {x : Int32} {k : (Nat → Int32) → Option β} (h : j < n) (hn : n < 2 ^ 31) : sti n f (nI j) x k = k (upd f j x) := by
  unfold sti
  rw [if_pos (in_ib (vp_in_nI h hn)), nI_clamp (by omega)]
theorem stl_n {β : Type} {n j : Nat} {f : Nat → Int64} {x : Int64} {k : (Nat → Int64) → Option β} (h : j < n) (hn : n < 2 ^ 31) : stl n f (nI j) x k = k (vp_updL f j x) := by
  unfold stl
  rw [if_pos (in_ib (vp_in_nI h hn)), nI_clamp (by omega)]
theorem rwx_n {β : Type} {j : Nat} {k : Nat → Option β} (h : j < 8) : rwx (nI j) k = k j := by
  unfold rwx
  rw [if_pos (in_ib (vp_in_nI h (by decide))), nI_clamp (by omega)]
theorem cpx_n {β : Type} {n0 n1 sp dp n : Nat} {f g : Nat → Int32} {k : (Nat → Int32) → Option β} (h0 : sp + n ≤ n0) (h1 : dp + n ≤ n1) (hs : n0 < 2 ^ 31) (hd : n1 < 2 ^ 31) : cpx n0 n1 f g (nI sp) (nI dp) (nI n) k = k (va_cpy f g sp dp n) := by
  unfold cpx
  rw [nI_clamp (by omega), nI_clamp (by omega), nI_clamp (by omega)]
  rw [if_pos ⟨nI_pos (by omega), nI_pos (by omega), nI_pos (by omega), h0, h1⟩]
theorem zrx_0 {β : Type} {k : Option β} : zrx 0 k = k := by unfold zrx; rw [if_pos (Or.inl rfl)]
theorem zrx_1 {β : Type} {k : Option β} : zrx 1 k = k := by unfold zrx; rw [if_pos (Or.inr rfl)]
theorem nzx_i {β : Type} {d : Int32} {k : Option β} (h : ¬ d = 0) : nzx d k = k := by unfold nzx; rw [if_neg h]
/-! Int32 against Int64 -/
theorem t64_le (x y : Int32) : x.toInt64 ≤ y.toInt64 ↔ x ≤ y := by
  rw [Int64.le_iff_toInt_le, Int32.le_iff_toInt_le, Int32.toInt_toInt64, Int32.toInt_toInt64]
theorem lgc_lt (x y : Int64) : lg_cmp x y < 0 ↔ x < y := by
  have h := lg_cmp_ge x y
  constructor
  · intro q
    rcases Int64.lt_or_le x y with r | r
    · exact r
    · have := h.mpr r
      rw [Int32.le_iff_toInt_le] at this
      rw [Int32.lt_iff_toInt_lt] at q
      omega
  · intro q
    have h2 : ¬ (0 ≤ lg_cmp x y) := fun r => absurd (h.mp r) (Int64.not_le.mpr q)
    rw [Int32.le_iff_toInt_le] at h2
    rw [Int32.lt_iff_toInt_lt]
    omega
theorem lgc_gt (x y : Int64) : 0 < lg_cmp x y ↔ y < x := by
  unfold lg_cmp
  by_cases h : x > y
  · rw [if_pos h]; exact ⟨fun _ => h, fun _ => by decide⟩
  · rw [if_neg h]
    by_cases h2 : x = y
    · rw [if_pos h2]; exact ⟨fun q => absurd q (by decide), fun q => absurd q h⟩
    · rw [if_neg h2]; exact ⟨fun q => absurd q (by decide), fun q => absurd q h⟩
theorem t64_lt (x y : Int32) : x.toInt64 < y.toInt64 ↔ x < y := by
  rw [Int64.lt_iff_toInt_lt, Int32.lt_iff_toInt_lt, Int32.toInt_toInt64, Int32.toInt_toInt64]
theorem in32 (x lo hi : Int32) : fX7_in x.toInt64 lo.toInt64 hi.toInt64 = some (if x < lo then 0 else if hi < x then 0 else 1) := by
  unfold fX7_in
  by_cases h : x < lo
  · rw [if_pos ((lgc_lt _ _).mpr ((t64_lt _ _).mpr h)), if_pos h]
  · rw [if_neg (fun q => h ((t64_lt _ _).mp ((lgc_lt _ _).mp q))), if_neg h]
    by_cases h2 : hi < x
    · rw [if_pos ((lgc_gt _ _).mpr ((t64_lt _ _).mpr h2)), if_pos h2]
    · rw [if_neg (fun q => h2 ((t64_lt _ _).mp ((lgc_gt _ _).mp q))), if_neg h2]
theorem i32_lt {x y : Int32} : x < y ↔ x.toInt < y.toInt := Int32.lt_iff_toInt_lt
theorem i32_le {x y : Int32} : x ≤ y ↔ x.toInt ≤ y.toInt := Int32.le_iff_toInt_le
theorem in_t {x lo hi : Int32} (h1 : ¬ x < lo) (h2 : ¬ hi < x) : fX7_in x.toInt64 lo.toInt64 hi.toInt64 = some 1 := by rw [in32, if_neg h1, if_neg h2]
theorem in_f {x lo hi : Int32} (h : x < lo ∨ hi < x) : fX7_in x.toInt64 lo.toInt64 hi.toInt64 = some 0 := by
  rw [in32]
  by_cases h1 : x < lo
  · rw [if_pos h1]
  · rw [if_neg h1, if_pos (h.resolve_left h1)]
/-- a number in a small range from a constant bound -/
theorem rng_cases (x : Int32) (n : Nat) (hn : n < 2 ^ 30) : (∃ j, j < n ∧ x = nI j) ∨ x < 0 ∨ nI n ≤ x := by
  rcases pk_ix x (n := n) (by omega) with h | h | h
  · exact Or.inr (Or.inl h)
  · exact Or.inr (Or.inr h)
  · exact Or.inl h
theorem sheet_cases (x : Int32) : (∃ j, j < 8 ∧ x = nI j ∧ fX6_isSheet x = some 1 ∧ fX7_isSheet x = some 1) ∨ (fX6_isSheet x = some 0 ∧ fX7_isSheet x = some 0) := by
  rcases rng_cases x 8 (by decide) with ⟨j, hj, rfl⟩ | h | h
  · left
    refine ⟨j, hj, rfl, ?_, ?_⟩
    · unfold fX6_isSheet
      rw [if_neg (nI_pos (by omega)), if_neg (show ¬ (8 : Int32) ≤ nI j from nI_ge hj (by decide))]
    · unfold fX7_isSheet
      rw [show (0 : Int64) = (0 : Int32).toInt64 from rfl, show (7 : Int64) = (nI 7).toInt64 from rfl, in_t (nI_pos (by omega)) (nI_nlt (by omega) (by omega)), bd1_i, zrx_1]
  · right
    refine ⟨by unfold fX6_isSheet; rw [if_pos h], ?_⟩
    unfold fX7_isSheet
    rw [show (0 : Int64) = (0 : Int32).toInt64 from rfl, show (7 : Int64) = (nI 7).toInt64 from rfl, in_f (Or.inl h), bd1_i, zrx_0]
  · right
    constructor
    · unfold fX6_isSheet
      by_cases h0 : x < 0
      · rw [if_pos h0]
      · rw [if_neg h0, if_pos (show (8 : Int32) ≤ x from h)]
    · unfold fX7_isSheet
      have h7 : nI 7 < x := by
        rw [i32_le, nI_toInt (by decide)] at h
        rw [i32_lt, nI_toInt (by decide)]
        omega
      rw [show (0 : Int64) = (0 : Int32).toInt64 from rfl, show (7 : Int64) = (nI 7).toInt64 from rfl, in_f (Or.inr h7), bd1_i, zrx_0]
theorem post_cases (x : Int32) {n : Nat} (hn : n ≤ 8) : (∃ j, j < n ∧ x = nI j ∧ fX1_hasPost (nI n) x = some 1 ∧ fX7_isPost (nI n) x = some 1) ∨ (fX1_hasPost (nI n) x = some 0 ∧ fX7_isPost (nI n) x = some 0) := by
  have e1 : (nI n - 1).toInt = (n : Int) - 1 := pk_sub_toInt (a := n) (b := 1) (by omega) (by decide)
  rcases rng_cases x n (by omega) with ⟨j, hj, rfl⟩ | h | h
  · left
    refine ⟨j, hj, rfl, ?_, ?_⟩
    · unfold fX1_hasPost
      rw [if_neg (nI_pos (by omega)), if_neg (nI_ge hj (by omega))]
    · unfold fX7_isPost
      rw [show (0 : Int64) = (0 : Int32).toInt64 from rfl, in_t (nI_pos (by omega)) (by rw [i32_lt, e1, nI_toInt (by omega)]; omega), bd1_i, zrx_1]
  · right
    refine ⟨by unfold fX1_hasPost; rw [if_pos h], ?_⟩
    unfold fX7_isPost
    rw [show (0 : Int64) = (0 : Int32).toInt64 from rfl, in_f (Or.inl h), bd1_i, zrx_0]
  · right
    constructor
    · unfold fX1_hasPost
      by_cases h0 : x < 0
      · rw [if_pos h0]
      · rw [if_neg h0, if_pos h]
    · unfold fX7_isPost
      rw [show (0 : Int64) = (0 : Int32).toInt64 from rfl, in_f (Or.inr (by rw [i32_le, nI_toInt (by omega)] at h; rw [i32_lt, e1]; omega)), bd1_i, zrx_0]
theorem hear_cases (x : Int32) : ((x = 0 ∨ x = 1) ∧ fX6_isHearing x = some 1 ∧ fX7_isHearing x = some 1) ∨ (fX6_isHearing x = some 0 ∧ fX7_isHearing x = some 0) := by
  rcases rng_cases x 2 (by decide) with ⟨j, hj, rfl⟩ | h | h
  · left
    rcases (show j = 0 ∨ j = 1 by omega) with rfl | rfl
    · exact ⟨Or.inl rfl, by decide +kernel, by decide +kernel⟩
    · exact ⟨Or.inr rfl, by decide +kernel, by decide +kernel⟩
  · right
    have h0 : ¬ x = 0 := fun q => by rw [q] at h; exact absurd h (by decide)
    have h1 : ¬ x = 1 := fun q => by rw [q] at h; exact absurd h (by decide)
    refine ⟨by unfold fX6_isHearing; rw [if_neg h0, if_neg h1], ?_⟩
    unfold fX7_isHearing
    rw [show (0 : Int64) = (0 : Int32).toInt64 from rfl, show (1 : Int64) = (1 : Int32).toInt64 from rfl, in_f (Or.inl h), bd1_i, zrx_0]
  · right
    have h0 : ¬ x = 0 := fun q => by rw [q] at h; exact absurd h (by decide)
    have h1 : ¬ x = 1 := fun q => by rw [q] at h; exact absurd h (by decide)
    refine ⟨by unfold fX6_isHearing; rw [if_neg h0, if_neg h1], ?_⟩
    unfold fX7_isHearing
    have h7 : (1 : Int32) < x := by
      rw [i32_le, nI_toInt (by decide)] at h
      rw [i32_lt, show (1 : Int32).toInt = 1 from rfl]
      omega
    rw [show (0 : Int64) = (0 : Int32).toInt64 from rfl, show (1 : Int64) = (1 : Int32).toInt64 from rfl, in_f (Or.inr h7), bd1_i, zrx_0]
/-! sets of posts as numbers -/
theorem nI_and (a b : Nat) : nI a &&& nI b = nI (a &&& b) := by
  apply Int32.toBitVec_inj.1
  show BitVec.ofNat 32 a &&& BitVec.ofNat 32 b = BitVec.ofNat 32 (a &&& b)
  apply BitVec.eq_of_getLsbD_eq
  intro i hi
  simp [hi]
theorem nI_or (a b : Nat) : nI a ||| nI b = nI (a ||| b) := by
  apply Int32.toBitVec_inj.1
  show BitVec.ofNat 32 a ||| BitVec.ofNat 32 b = BitVec.ofNat 32 (a ||| b)
  apply BitVec.eq_of_getLsbD_eq
  intro i hi
  simp [hi]
theorem nI_xor (a b : Nat) : nI a ^^^ nI b = nI (a ^^^ b) := by
  apply Int32.toBitVec_inj.1
  show BitVec.ofNat 32 a ^^^ BitVec.ofNat 32 b = BitVec.ofNat 32 (a ^^^ b)
  apply BitVec.eq_of_getLsbD_eq
  intro i hi
  simp [hi]
theorem sh1 : ∀ k, k < 9 → (1 : Int32) <<< (nI k &&& 31) = nI (2 ^ k) := by decide +kernel
theorem all_of : ∀ n, n < 9 → ((1 : Int32) <<< (nI n &&& 31)) - (1 : Int32) = nI (2 ^ n - 1) := by decide +kernel
theorem bit_of : ∀ s, s < 256 → ∀ k, k < 8 → (nI s >>> (nI k &&& 31)) &&& (1 : Int32) = if s.testBit k then 1 else 0 := by decide +kernel
theorem x_of (x : Int32) : ∃ n, n < 2 ^ 32 ∧ x = nI n := by
  refine ⟨x.toBitVec.toNat, x.toBitVec.isLt, ?_⟩
  apply Int32.toBitVec_inj.1
  show x.toBitVec = BitVec.ofNat 32 x.toBitVec.toNat
  simp
theorem nI_inj32 {a b : Nat} (ha : a < 2 ^ 32) (hb : b < 2 ^ 32) (h : nI a = nI b) : a = b := by
  have h2 := congrArg (fun x : Int32 => x.toBitVec.toNat) h
  simp only [pk_tn ha, pk_tn hb] at h2
  exact h2
theorem set_cases (x : Int32) {n : Nat} (hn : n ≤ 8) : (∃ t, t < 2 ^ n ∧ x = nI t ∧ fX1_hasSet (nI n) x = some 1 ∧ fX7_isSet (nI n) x = some 1) ∨ (fX1_hasSet (nI n) x = some 0 ∧ fX7_isSet (nI n) x = some 0) := by
  have h2n : 2 ^ n ≤ 256 := by
    have := Nat.pow_le_pow_right (n := 2) (by decide) hn
    simpa using this
  have h1n : 0 < 2 ^ n := Nat.two_pow_pos n
  have hA := all_of n (by omega)
  have hm : ∀ n, n < 9 → nI (2 ^ n - 1) ^^^ (-1) = nI (2 ^ 32 - 2 ^ n) := by decide +kernel
  have hmask : ∀ k : Nat, k < 2 ^ 32 → (k &&& (2 ^ 32 - 2 ^ n) = 0 ↔ k < 2 ^ n) := by
    intro k hk
    have hb : ∀ i, (2 ^ 32 - 2 ^ n).testBit i = (decide (n ≤ i) && decide (i < 32)) := by
      intro i
      have e : 2 ^ 32 - 2 ^ n = (2 ^ (32 - n) - 1) * 2 ^ n := by
        rw [Nat.sub_mul, ← Nat.pow_add, Nat.one_mul]
        congr 2
        omega
      rw [e, Nat.testBit_mul_two_pow, Nat.testBit_two_pow_sub_one]
      by_cases h1 : n ≤ i
      · by_cases h3 : i < 32
        · simp [h1, h3, show i - n < 32 - n by omega]
        · simp [h1, h3, show ¬ i - n < 32 - n by omega]
      · simp [h1]
    constructor
    · intro h
      apply Nat.lt_pow_two_of_testBit
      intro i hi
      by_cases h3 : i < 32
      · have := congrArg (fun z : Nat => z.testBit i) h
        simp only [Nat.testBit_and, hb, Nat.zero_testBit, hi, h3, decide_true, Bool.and_true] at this
        exact this
      · exact Nat.testBit_lt_two_pow (Nat.lt_of_lt_of_le hk (Nat.pow_le_pow_right (by decide) (by omega)))
    · intro h
      apply Nat.eq_of_testBit_eq
      intro i
      rw [Nat.testBit_and, hb, Nat.zero_testBit]
      by_cases h1 : n ≤ i
      · rw [Nat.testBit_lt_two_pow (Nat.lt_of_lt_of_le h (Nat.pow_le_pow_right (by decide) h1))]; rfl
      · simp [h1]
  obtain ⟨k, hk, rfl⟩ := x_of x
  have hs : fX1_hasSet (nI n) (nI k) = if k < 2 ^ n then some 1 else some 0 := by
    unfold fX1_hasSet fX1_allPosts
    rw [bd1_i, hA, hm n (by omega), nI_and]
    by_cases h : k < 2 ^ n
    · rw [if_pos h, (hmask k hk).mpr h, if_pos nI_0]
    · rw [if_neg h, if_neg]
      intro q
      have hz : k &&& (2 ^ 32 - 2 ^ n) = 0 := nI_inj32 (Nat.lt_of_le_of_lt Nat.and_le_left hk) (by decide) (q.trans nI_0.symm)
      exact h ((hmask k hk).mp hz)
  by_cases h : k < 2 ^ n
  · left
    refine ⟨k, h, rfl, by rw [hs, if_pos h], ?_⟩
    unfold fX7_isSet fX7_all
    rw [bd1_i, hA, show (0 : Int64) = (0 : Int32).toInt64 from rfl, in_t (nI_pos (by omega)) (nI_nlt (by omega) (by omega)), bd1_i, zrx_1]
  · right
    refine ⟨by rw [hs, if_neg h], ?_⟩
    unfold fX7_isSet fX7_all
    rw [bd1_i, hA, show (0 : Int64) = (0 : Int32).toInt64 from rfl, in_f, bd1_i, zrx_0]
    by_cases h31 : k < 2 ^ 31
    · right
      exact nI_lt (by omega) h31
    · left
      rw [i32_lt]
      show (Int32.ofNat k).toInt < 0
      rw [Int32.toInt_ofNat']
      simp only [Int.bmod, show (Int32.size : Nat) = 4294967296 from rfl]
      omega
