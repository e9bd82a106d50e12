/-! schedule: the pieces of the text -/
def Tp (F G : Nat → Int32) (b : Nat → Nat) (L : Nat) : Prop := L ≤ 300 ∧ ∀ i, i < L → F i = nI (b i) ∧ G i = nI (b i) ∧ b i < 256
def isL (c : Nat) : Prop := 97 ≤ c ∧ c ≤ 122
def isF (c : Nat) : Prop := 48 ≤ c ∧ c ≤ 57
theorem run_ex (P : Nat → Prop) (L : Nat) : ∀ (d p : Nat), p ≤ L → L = p + d → ∃ e, p ≤ e ∧ e ≤ L ∧ (∀ i, p ≤ i → i < e → P i) ∧ (e < L → ¬ P e)
  | 0, p, h1, h2 => ⟨p, Nat.le_refl _, h1, fun i a c => by omega, fun c => by omega⟩
  | d + 1, p, h1, h2 => by
    by_cases q : P p
    · obtain ⟨e, e1, e2, e3, e4⟩ := run_ex P L d (p + 1) (by omega) (by omega)
      refine ⟨e, by omega, e2, fun i a c => ?_, e4⟩
      by_cases r : i = p
      · subst r; exact q
      · exact e3 i (by omega) c
    · exact ⟨p, Nat.le_refl _, h1, fun i a c => by omega, fun _ => q⟩
theorem let2 : ∀ c, c < 256 → fX2_isLetter (nI c) = some (if 97 ≤ c ∧ c ≤ 122 then 1 else 0) := by decide +kernel
theorem fig2 : ∀ c, c < 256 → fX2_isFigure (nI c) = some (if 48 ≤ c ∧ c ≤ 57 then 1 else 0) := by decide +kernel
theorem let2_t {c : Nat} (hc : c < 256) (h : isL c) : fX2_isLetter (nI c) = some 1 := by rw [let2 c hc]; exact congrArg some (if_pos h)
theorem let2_f {c : Nat} (hc : c < 256) (h : ¬ isL c) : fX2_isLetter (nI c) = some 0 := by rw [let2 c hc]; exact congrArg some (if_neg h)
theorem fig2_t {c : Nat} (hc : c < 256) (h : isF c) : fX2_isFigure (nI c) = some 1 := by rw [fig2 c hc]; exact congrArg some (if_pos h)
theorem fig2_f {c : Nat} (hc : c < 256) (h : ¬ isF c) : fX2_isFigure (nI c) = some 0 := by rw [fig2 c hc]; exact congrArg some (if_neg h)
theorem let7_t {c : Nat} (hc : c < 256) (h : isL c) : fX7_isLetter (nI c) = some 1 := let2_t hc h
theorem let7_f {c : Nat} (hc : c < 256) (h : ¬ isL c) : fX7_isLetter (nI c) = some 0 := let2_f hc h
theorem fig7_t {c : Nat} (hc : c < 256) (h : isF c) : fX7_isFigure (nI c) = some 1 := fig2_t hc h
theorem fig7_f {c : Nat} (hc : c < 256) (h : ¬ isF c) : fX7_isFigure (nI c) = some 0 := fig2_f hc h
theorem let7_n : fX7_isLetter (-1000000) = some 0 := by decide +kernel
theorem fig7_n : fX7_isFigure (-1000000) = some 0 := by decide +kernel
theorem by7 {F G : Nat → Int32} {b : Nat → Nat} {L : Nat} (T : Tp F G b L) {j : Nat} (hj : j < L) : fX7_byteAt (nI L) G (nI j) = some (nI (b j)) := by
  unfold fX7_byteAt
  have := T.1
  rw [if_neg (nI_ge hj (by omega)), ldx_n (by omega) (by decide), (T.2 j hj).2.1]
theorem by7_e (G : Nat → Int32) {L : Nat} (h : L ≤ 300) : fX7_byteAt (nI L) G (nI L) = some (-1000000) := by
  unfold fX7_byteAt
  rw [if_pos (nI_le (Nat.le_refl L) (by omega))]
/-! names -/
theorem an_loop {F G : Nat → Int32} {b : Nat → Nat} {L s e : Nat} (T : Tp F G b L) (he : e ≤ L) (h3 : ∀ i, s ≤ i → i < e → isL (b i)) (h4 : e < L → ¬ isL (b e)) (tk : Int32) : ∀ (m j : Nat), s ≤ j → j ≤ e → e + 1 ≤ j + m → fX2_advanceName_c0 (nI L) (nI s) F m tk (nI j) = fX2_advanceName_c39 (nI L) (nI s) F tk (nI e) := by
  intro m
  have hL := T.1
  induction m with
  | zero => intro j h1 h2; omega
  | succ m ih =>
    intro j h1 h2 h5
    rw [fX2_advanceName_c0]
    by_cases q : j = e
    · subst q
      by_cases r : j = L
      · rw [if_pos (nI_le (by omega) (by omega))]
      · rw [if_neg (nI_ge (by omega) (by omega)), ldx_n (by omega) (by decide), (T.2 j (by omega)).1, let2_f (T.2 j (by omega)).2.2 (h4 (by omega)), bd1_i, if_pos rfl]
    · rw [if_neg (nI_ge (by omega) (by omega)), ldx_n (by omega) (by decide), (T.2 j (by omega)).1, let2_t (T.2 j (by omega)).2.2 (h3 j h1 (by omega)), bd1_i, if_neg (by decide), nI_1]
      exact ih (j + 1) (by omega) (by omega) (by omega)
theorem sn_loop {F G : Nat → Int32} {b : Nat → Nat} {L s e : Nat} (T : Tp F G b L) (he : e ≤ L) (h3 : ∀ i, s ≤ i → i < e → isL (b i)) (h4 : e < L → ¬ isL (b e)) (so ti : Int32) : ∀ (m j : Nat), s ≤ j → j ≤ e → e + 1 ≤ j + m → fX7_step_c77 (nI L) G m (nI j) so (nI s) ti = some (nI e, (if e - s ≤ 6 then 2 else 0), nI s, nI e) := by
  intro m
  have hL := T.1
  induction m with
  | zero => intro j h1 h2; omega
  | succ m ih =>
    intro j h1 h2 h5
    rw [fX7_step_c77]
    by_cases q : j = e
    · subst q
      have fin : (if (nI j - nI s) ≤ 6 then fX7_step_c124 (nI L) G (nI j) so (nI s) ti 2 else fX7_step_c124 (nI L) G (nI j) so (nI s) ti 0) = some (nI j, (if j - s ≤ 6 then 2 else 0), nI s, nI j) := by
        rw [pk_sub h1]
        by_cases r : j - s ≤ 6
        · rw [if_pos (show nI (j - s) ≤ (6 : Int32) from nI_le r (by decide)), if_pos r]; rfl
        · rw [if_neg (show ¬ nI (j - s) ≤ (6 : Int32) from nI_ge (show 6 < j - s by omega) (by omega)), if_neg r]; rfl
      by_cases r : j = L
      · subst r; rw [by7_e G hL, bd1_i, let7_n, bd1_i, if_pos rfl]; exact fin
      · rw [by7 T (by omega), bd1_i, let7_f (T.2 j (by omega)).2.2 (h4 (by omega)), bd1_i, if_pos rfl]; exact fin
    · rw [by7 T (by omega), bd1_i, let7_t (T.2 j (by omega)).2.2 (h3 j h1 (by omega)), bd1_i, if_neg (by decide), nI_1]
      exact ih (j + 1) (by omega) (by omega) (by omega)
/-! numbers -/
def nv (b : Nat → Nat) (s j : Nat) : Nat := if j = s then 0 else if j = s + 1 then b s - 48 else (b s - 48) * 10 + (b (s + 1) - 48)
theorem nu_loop {F G : Nat → Int32} {b : Nat → Nat} {L s e : Nat} (T : Tp F G b L) (he : e ≤ L) (h3 : ∀ i, s ≤ i → i < e → isF (b i)) (h4 : e < L → ¬ isF (b e)) (tk : Int32) : ∀ (m j : Nat), s ≤ j → j ≤ e → e + 1 ≤ j + m → fX2_advanceNumber_c5 (nI L) (nI s) F m tk (nI j) (nI (nv b s j)) = some ((if e - s ≤ 2 then 5 else 1), nI e, nI (nv b s e)) := by
  intro m
  have hL := T.1
  induction m with
  | zero => intro j h1 h2; omega
  | succ m ih =>
    intro j h1 h2 h5
    rw [fX2_advanceNumber_c5]
    by_cases q : j = e
    · subst q
      have fin : fX2_advanceNumber_c88 (nI L) (nI s) F tk (nI j) (nI (nv b s j)) = some ((if j - s ≤ 2 then 5 else 1), nI j, nI (nv b s j)) := by
        unfold fX2_advanceNumber_c88
        rw [pk_sub h1]
        by_cases r : j - s ≤ 2
        · rw [if_neg (show ¬ (2 : Int32) < nI (j - s) from nI_nlt r (by decide)), if_pos r]
        · rw [if_pos (show (2 : Int32) < nI (j - s) from nI_lt (show 2 < j - s by omega) (by omega)), if_neg r]
      by_cases r : j = L
      · rw [if_pos (nI_le (by omega) (by omega))]; exact fin
      · rw [if_neg (nI_ge (by omega) (by omega)), ldx_n (by omega) (by decide), (T.2 j (by omega)).1, fig2_f (T.2 j (by omega)).2.2 (h4 (by omega)), bd1_i, if_pos rfl]; exact fin
    · have hf := h3 j h1 (by omega)
      rw [if_neg (nI_ge (by omega) (by omega)), ldx_n (by omega) (by decide), (T.2 j (by omega)).1, fig2_t (T.2 j (by omega)).2.2 hf, bd1_i, if_neg (by decide), pk_sub h1]
      unfold fX2_advanceNumber_c72
      by_cases r : 2 ≤ j - s
      · rw [if_pos (show (2 : Int32) ≤ nI (j - s) from nI_le r (by omega)), nI_1, show nv b s j = nv b s (j + 1) from by unfold nv; rw [if_neg (by omega), if_neg (by omega), if_neg (by omega), if_neg (by omega)]]
        exact ih (j + 1) (by omega) (by omega) (by omega)
      · have e1 : (nI (nv b s j) * (10 : Int32) + nI (b j)) - (48 : Int32) = nI (nv b s (j + 1)) := by
          rw [show (10 : Int32) = nI 10 from rfl, show (48 : Int32) = nI 48 from rfl, nI_mul, nI_add, pk_sub (by have := hf.1; omega)]
          congr 1
          unfold nv
          by_cases c : j = s
          · subst c; rw [if_pos rfl, if_neg (by omega), if_pos rfl]; omega
          · have c2 : j = s + 1 := by omega
            subst c2
            have h48 := (h3 s (by omega) (by omega)).1
            rw [if_neg c, if_pos rfl, if_neg (by omega), if_neg (by omega)]
            have := hf.1
            omega
        rw [if_neg (show ¬ (2 : Int32) ≤ nI (j - s) from nI_ge (show j - s < 2 by omega) (by decide)), ldx_n (by omega) (by decide), (T.2 j (by omega)).1, nI_1, e1]
        exact ih (j + 1) (by omega) (by omega) (by omega)
theorem su_loop {F G : Nat → Int32} {b : Nat → Nat} {L s e : Nat} (T : Tp F G b L) (he : e ≤ L) (h3 : ∀ i, s ≤ i → i < e → isF (b i)) (h4 : e < L → ¬ isF (b e)) (so ti : Int32) : ∀ (m j : Nat), s ≤ j → j ≤ e → e + 1 ≤ j + m → fX7_step_c137 (nI L) G m (nI j) so (nI s) ti = some (nI e, (if e - s ≤ 2 then 3 else 0), nI s, nI e) := by
  intro m
  have hL := T.1
  induction m with
  | zero => intro j h1 h2; omega
  | succ m ih =>
    intro j h1 h2 h5
    rw [fX7_step_c137]
    by_cases q : j = e
    · subst q
      have fin : (if (nI j - nI s) ≤ 2 then fX7_step_c183 (nI L) G (nI j) so (nI s) ti 3 else fX7_step_c183 (nI L) G (nI j) so (nI s) ti 0) = some (nI j, (if j - s ≤ 2 then 3 else 0), nI s, nI j) := by
        rw [pk_sub h1]
        by_cases r : j - s ≤ 2
        · rw [if_pos (show nI (j - s) ≤ (2 : Int32) from nI_le r (by decide)), if_pos r]; rfl
        · rw [if_neg (show ¬ nI (j - s) ≤ (2 : Int32) from nI_ge (show 2 < j - s by omega) (by omega)), if_neg r]; rfl
      by_cases r : j = L
      · subst r; rw [by7_e G hL, bd1_i, fig7_n, bd1_i, if_pos rfl]; exact fin
      · rw [by7 T (by omega), bd1_i, fig7_f (T.2 j (by omega)).2.2 (h4 (by omega)), bd1_i, if_pos rfl]; exact fin
    · rw [by7 T (by omega), bd1_i, fig7_t (T.2 j (by omega)).2.2 (h3 j h1 (by omega)), bd1_i, if_neg (by decide), nI_1]
      exact ih (j + 1) (by omega) (by omega) (by omega)
/-! gaps -/
theorem c_is {c d : Nat} (hc : c < 256) (hd : d < 256) : (nI c = nI d) ↔ c = d := nI_eq (by omega) (by omega)
theorem c_32 {c : Nat} (hc : c < 256) (h : ¬ c = 32) : ¬ nI c = (32 : Int32) := fun w => h ((c_is hc (show 32 < 256 by decide)).mp w)
theorem c_10 {c : Nat} (hc : c < 256) (h : ¬ c = 10) : ¬ nI c = (10 : Int32) := fun w => h ((c_is hc (show 10 < 256 by decide)).mp w)
theorem c_59 {c : Nat} (hc : c < 256) (h : ¬ c = 59) : ¬ nI c = (59 : Int32) := fun w => h ((c_is hc (show 59 < 256 by decide)).mp w)
theorem sk2_loop {F G : Nat → Int32} {b : Nat → Nat} {L s : Nat} (T : Tp F G b L) (he : s ≤ L) {p : Nat} (h3 : ∀ i, p ≤ i → i < s → (b i = 32 ∨ b i = 10)) (h4 : s < L → ¬ (b s = 32 ∨ b s = 10)) (tk be nu : Int32) : ∀ (m j : Nat), p ≤ j → j ≤ s → s + 1 ≤ j + m → fX2_advance_c8 (nI L) F m tk (nI j) be nu = fX2_advance_c60 (nI L) F tk (nI s) be nu := by
  intro m
  have hL := T.1
  induction m with
  | zero => intro j h1 h2; omega
  | succ m ih =>
    intro j h1 h2 h5
    rw [fX2_advance_c8]
    by_cases q : j = s
    · subst q
      by_cases r : j = L
      · rw [if_pos (nI_le (by omega) (by omega))]
      · have h6 := h4 (by omega)
        have hb := (T.2 j (by omega)).2.2
        rw [if_neg (nI_ge (by omega) (by omega)), ldx_n (by omega) (by decide), (T.2 j (by omega)).1, if_neg (c_32 hb (fun w => h6 (Or.inl w))), ldx_n (by omega) (by decide), (T.2 j (by omega)).1, if_neg (c_10 hb (fun w => h6 (Or.inr w)))]
    · have hb := (T.2 j (by omega)).2.2
      rw [if_neg (nI_ge (by omega) (by omega)), ldx_n (by omega) (by decide), (T.2 j (by omega)).1]
      unfold fX2_advance_c47
      by_cases w : b j = 32
      · rw [if_pos (by rw [w]; rfl), nI_1]; exact ih (j + 1) (by omega) (by omega) (by omega)
      · have w2 : b j = 10 := (h3 j h1 (by omega)).resolve_left w
        rw [if_neg (c_32 hb w), ldx_n (by omega) (by decide), (T.2 j (by omega)).1, if_pos (by rw [w2]; rfl), nI_1]; exact ih (j + 1) (by omega) (by omega) (by omega)
theorem sk7_loop {F G : Nat → Int32} {b : Nat → Nat} {L s : Nat} (T : Tp F G b L) (he : s ≤ L) {p : Nat} (h3 : ∀ i, p ≤ i → i < s → (b i = 32 ∨ b i = 10)) (so fr ti : Int32) : ∀ (m j : Nat), p ≤ j → j ≤ s → s + 1 ≤ j + m → ∃ m', fX7_step_c0 (nI L) G m (nI j) so fr ti = fX7_step_c0 (nI L) G (m' + 1) (nI s) so fr ti := by
  intro m
  have hL := T.1
  induction m with
  | zero => intro j h1 h2; omega
  | succ m ih =>
    intro j h1 h2 h5
    by_cases q : j = s
    · subst q; exact ⟨m, rfl⟩
    · have hb := (T.2 j (by omega)).2.2
      obtain ⟨m', e⟩ := ih (j + 1) (by omega) (by omega) (by omega)
      refine ⟨m', ?_⟩
      rw [← e]
      conv => lhs; rw [fX7_step_c0]
      unfold fX7_step_c26
      rw [by7 T (by omega), bd1_i, bd1_i]
      by_cases w : b j = 32
      · rw [if_pos (by rw [w]; rfl), nI_1]
      · have w2 : b j = 10 := (h3 j h1 (by omega)).resolve_left w
        rw [if_neg (c_32 hb w), if_pos (by rw [w2]; rfl), nI_1]
