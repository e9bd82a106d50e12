/-! schedule: the words -/
def pkd (b : Nat → Nat) (s : Nat) : Nat → Nat
  | 0 => 0
  | k + 1 => pkd b s k * 256 + b (s + k)
theorem pkd_lt {b : Nat → Nat} {s : Nat} : ∀ k, (∀ i, i < k → b (s + i) < 256) → pkd b s k < 256 ^ k
  | 0, h => by unfold pkd; decide
  | k + 1, h => by
    have ih := pkd_lt (b := b) (s := s) k (fun i hi => h i (by omega))
    have h2 := h k (by omega)
    unfold pkd
    rw [Nat.pow_succ]
    omega
theorem lN_or (a b : Nat) : lN a ||| lN b = lN (a ||| b) := by
  apply Int64.toBitVec_inj.1
  show BitVec.ofNat 64 a ||| BitVec.ofNat 64 b = BitVec.ofNat 64 (a ||| b)
  apply BitVec.eq_of_getLsbD_eq
  intro i hi
  simp [hi]
theorem pk_byte (v : Nat) {c : Nat} (hc : c < 256) : (lN v <<< ((8 : Int32).toInt64 &&& 63)) ||| (nI c).toInt64 = lN (v * 256 + c) := by
  rw [show (8 : Int32) = nI 8 from rfl, lN_shl v (by decide), nI_l (by omega), lN_or]
  congr 1
  have := Nat.two_pow_add_eq_or_of_lt (i := 8) (b := c) (by omega) v
  rw [Nat.mul_comm] at this
  rw [← this]
theorem wd_loop {F G : Nat → Int32} {b : Nat → Nat} {L s e : Nat} (T : Tp F G b L) (he : e ≤ L) : ∀ (m k : Nat), s + k ≤ e → e + 1 ≤ s + k + m → fX7_word_c7 2 (nI s) (nI e) G m (lN (pkd b s k)) (nI (s + k)) = some (lN (pkd b s (e - s))) := by
  intro m
  have hL := T.1
  induction m with
  | zero => intro k h1 h2; omega
  | succ m ih =>
    intro k h1 h2
    rw [fX7_word_c7]
    by_cases q : s + k = e
    · rw [if_pos (nI_le (by omega) (by omega)), show e - s = k by omega]
    · rw [if_neg (nI_ge (by omega) (by omega)), if_pos rfl, ldx_n (by omega) (by decide), (T.2 _ (by omega)).2.1, bnd_i, pk_byte _ (T.2 _ (by omega)).2.2, nI_1]
      exact ih (k + 1) (by omega) (by omega)
theorem wd_of {F G : Nat → Int32} {b : Nat → Nat} {L s e : Nat} (T : Tp F G b L) (he : e ≤ L) (hs : s ≤ e) : fX7_word 2 (nI s) (nI e) G = some (lN (pkd b s (e - s))) :=
  wd_loop T he FU 0 hs (by have := T.1; unfold FU; omega)
theorem wd_0 (G : Nat → Int32) {s e : Nat} (hs : s ≤ e) (he : e ≤ 300) {so : Int32} (h : ¬ so = 2) : fX7_word so (nI s) (nI e) G = some 0 := by
  unfold fX7_word
  rw [show FU = 99999 + 1 from by decide, fX7_word_c7]
  by_cases q : s = e
  · rw [if_pos (nI_le (by omega) (by omega))]
  · rw [if_neg (nI_ge (by omega) (by omega)), if_neg h]
def wdB (k j : Nat) : Nat := (([[114, 111, 117, 110, 100], [97, 108, 108], [116, 119, 105, 99, 101]] : List (List Nat)).getD k []).getD j 0
theorem wdN_le : ∀ k, k < 3 → wdN k ≤ 5 := by decide +kernel
theorem wdB_C : ∀ k, k < 3 → ∀ j, j < 5 → wdC k j = nI (wdB k j) ∧ wdB k j < 256 := by decide +kernel
theorem iw_loop {F G : Nat → Int32} {b : Nat → Nat} {L s : Nat} (T : Tp F G b L) {k : Nat} (hk : k < 3) (he : s + wdN k ≤ L) : ∀ (m i : Nat), i ≤ wdN k → wdN k + 1 ≤ i + m → ∃ r : Int32, fX2_isWord_c (nI s) F k m i = some r ∧ ((r = 1 ∧ ∀ j, i ≤ j → j < wdN k → b (s + j) = wdB k j) ∨ (r = 0 ∧ ¬ ∀ j, i ≤ j → j < wdN k → b (s + j) = wdB k j)) := by
  intro m
  have hL := T.1
  have h5 := wdN_le k hk
  induction m with
  | zero => intro i h1 h2; omega
  | succ m ih =>
    intro i h1 h2
    rw [fX2_isWord_c]
    by_cases q : wdN k ≤ i
    · rw [if_pos q]; exact ⟨1, rfl, Or.inl ⟨rfl, fun j a c => by omega⟩⟩
    · obtain ⟨w1, w2⟩ := wdB_C k hk i (by omega)
      have t := T.2 (s + i) (by omega)
      rw [if_neg q, nI_add, ldx_n (by omega) (by decide), t.1, w1]
      by_cases c : b (s + i) = wdB k i
      · rw [if_pos (by rw [c])]
        obtain ⟨r, r1, r2⟩ := ih (i + 1) (by omega) (by omega)
        refine ⟨r, r1, ?_⟩
        rcases r2 with ⟨r2, r3⟩ | ⟨r2, r3⟩
        · refine Or.inl ⟨r2, fun j a d => ?_⟩
          by_cases g : j = i
          · rw [g]; exact c
          · exact r3 j (by omega) d
        · exact Or.inr ⟨r2, fun g => r3 (fun j a d => g j (by omega) d)⟩
      · rw [if_neg (fun u => c ((c_is t.2.2 w2).mp u))]
        exact ⟨0, rfl, Or.inr ⟨rfl, fun g => c (g i (Nat.le_refl _) (by omega))⟩⟩
def isWd (b : Nat → Nat) (s e k : Nat) : Prop := e - s = wdN k ∧ ∀ j, j < wdN k → b (s + j) = wdB k j
theorem iw_of {F G : Nat → Int32} {b : Nat → Nat} {L s e : Nat} (T : Tp F G b L) (hs : s ≤ e) (he : e ≤ L) {k : Nat} (hk : k < 3) : ∃ r : Int32, fX2_isWord (nI s) (nI e) F k = some r ∧ ((r = 1 ∧ isWd b s e k) ∨ (r = 0 ∧ ¬ isWd b s e k)) := by
  have hL := T.1
  have h5 := wdN_le k hk
  unfold fX2_isWord
  rw [if_pos hk, pk_sub hs]
  by_cases q : e - s = wdN k
  · rw [if_pos (by rw [q])]
    obtain ⟨r, r1, r2⟩ := iw_loop T hk (s := s) (by omega) FU 0 (by omega) (by unfold FU; omega)
    refine ⟨r, r1, ?_⟩
    rcases r2 with ⟨r2, r3⟩ | ⟨r2, r3⟩
    · exact Or.inl ⟨r2, q, fun j d => r3 j (by omega) d⟩
    · exact Or.inr ⟨r2, fun g => r3 (fun j _ d => g.2 j d)⟩
  · rw [if_neg (fun u => q ((nI_eq (by omega) (by omega)).mp u))]
    exact ⟨0, rfl, Or.inr ⟨rfl, fun g => q g.1⟩⟩
theorem all5 (f g : Nat → Nat) : (∀ j, j < 5 → f j = g j) ↔ (f 0 = g 0 ∧ f 1 = g 1 ∧ f 2 = g 2 ∧ f 3 = g 3 ∧ f 4 = g 4) := by
  constructor
  · intro h; exact ⟨h 0 (by decide), h 1 (by decide), h 2 (by decide), h 3 (by decide), h 4 (by decide)⟩
  · rintro ⟨h0, h1, h2, h3, h4⟩ j hj
    have : j = 0 ∨ j = 1 ∨ j = 2 ∨ j = 3 ∨ j = 4 := by omega
    rcases this with rfl | rfl | rfl | rfl | rfl <;> assumption
theorem all3 (f g : Nat → Nat) : (∀ j, j < 3 → f j = g j) ↔ (f 0 = g 0 ∧ f 1 = g 1 ∧ f 2 = g 2) := by
  constructor
  · intro h; exact ⟨h 0 (by decide), h 1 (by decide), h 2 (by decide)⟩
  · rintro ⟨h0, h1, h2⟩ j hj
    have : j = 0 ∨ j = 1 ∨ j = 2 := by omega
    rcases this with rfl | rfl | rfl <;> assumption
theorem pk_w0 {b : Nat → Nat} {s : Nat} : ∀ m, m ≤ 6 → (∀ i, i < m → isL (b (s + i))) → ((pkd b s m = 491496238692 ↔ (m = 5 ∧ ∀ j, j < 5 → b (s + j) = wdB 0 j)) ∧ (pkd b s m = 6384748 ↔ (m = 3 ∧ ∀ j, j < 3 → b (s + j) = wdB 1 j)) ∧ (pkd b s m = 500219601765 ↔ (m = 5 ∧ ∀ j, j < 5 → b (s + j) = wdB 2 j))) := by
  intro m hm H
  rw [all5 (fun j => b (s + j)) (wdB 0), all5 (fun j => b (s + j)) (wdB 2), all3 (fun j => b (s + j)) (wdB 1)]
  have d0 : wdB 0 0 = 114 ∧ wdB 0 1 = 111 ∧ wdB 0 2 = 117 ∧ wdB 0 3 = 110 ∧ wdB 0 4 = 100 := by decide
  have d1 : wdB 1 0 = 97 ∧ wdB 1 1 = 108 ∧ wdB 1 2 = 108 := by decide
  have d2 : wdB 2 0 = 116 ∧ wdB 2 1 = 119 ∧ wdB 2 2 = 105 ∧ wdB 2 3 = 99 ∧ wdB 2 4 = 101 := by decide
  rw [d0.1, d0.2.1, d0.2.2.1, d0.2.2.2.1, d0.2.2.2.2, d1.1, d1.2.1, d1.2.2, d2.1, d2.2.1, d2.2.2.1, d2.2.2.2.1, d2.2.2.2.2]
  clear d0 d1 d2
  unfold isL at H
  have h : m = 0 ∨ m = 1 ∨ m = 2 ∨ m = 3 ∨ m = 4 ∨ m = 5 ∨ m = 6 := by omega
  rcases h with rfl | rfl | rfl | rfl | rfl | rfl | rfl
  · simp only [pkd]; clear H; omega
  · have a0 := H 0 (by decide); clear H; simp only [pkd]; omega
  · have a0 := H 0 (by decide); have a1 := H 1 (by decide); clear H; simp only [pkd]; omega
  · have a0 := H 0 (by decide); have a1 := H 1 (by decide); have a2 := H 2 (by decide); clear H; simp only [pkd]; refine ⟨⟨fun h => ?_, fun h => ?_⟩, ⟨fun h => ⟨trivial, ?_, ?_, ?_⟩, fun h => ?_⟩, ⟨fun h => ?_, fun h => ?_⟩⟩ <;> omega
  · have a0 := H 0 (by decide); have a1 := H 1 (by decide); have a2 := H 2 (by decide); have a3 := H 3 (by decide); clear H; simp only [pkd]; omega
  · have a0 := H 0 (by decide); have a1 := H 1 (by decide); have a2 := H 2 (by decide); have a3 := H 3 (by decide); have a4 := H 4 (by decide); clear H; simp only [pkd]; refine ⟨⟨fun h => ⟨trivial, ?_, ?_, ?_, ?_, ?_⟩, fun h => ?_⟩, ⟨fun h => ?_, fun h => ?_⟩, ⟨fun h => ⟨trivial, ?_, ?_, ?_, ?_, ?_⟩, fun h => ?_⟩⟩ <;> omega
  · have a0 := H 0 (by decide); have a1 := H 1 (by decide); have a2 := H 2 (by decide); have a3 := H 3 (by decide); have a4 := H 4 (by decide); have a5 := H 5 (by decide); clear H; simp only [pkd]; omega
theorem lgc_eq (x y : Int64) : lg_cmp x y = 0 ↔ x = y := by
  unfold lg_cmp
  by_cases h : x > y
  · rw [if_pos h]; exact ⟨fun q => absurd q (by decide), fun q => absurd h (by rw [q]; exact Int64.lt_irrefl)⟩
  · rw [if_neg h]
    by_cases h2 : x = y
    · rw [if_pos h2]; exact ⟨fun _ => h2, fun _ => rfl⟩
    · rw [if_neg h2]; exact ⟨fun q => absurd q (by decide), fun q => absurd q h2⟩
theorem lgc_c {v c : Nat} (hv : v < 2 ^ 63) (hc : c < 2 ^ 63) : lg_cmp (lN v) (lN c) = 0 ↔ v = c := by
  rw [lgc_eq]
  exact pk_lEQ hv hc
