/-! schedule: the numbers of a round -/
theorem m154_loop {F G : Nat → Int32} {b : Nat → Nat} {L s e : Nat} (T : Tp F G b L) (he : e ≤ L) (hcap : e ≤ s + 2) (h3 : ∀ i, s ≤ i → i < e → isF (b i)) (po : Int32) (k : Int32 → Int32 → Int32 → Int32 → Int32 → Int32 → Int32 → (Nat → Int32) → Int64 → Int32 → Option (Int32 × Int32 × Int32 × Int32 × Int32 × Int32 × Int32 × (Nat → Int32))) (rd at' so fa fA : Int32) (h : Nat → Int32) (x1 : Int64) (x4 : Int32) : ∀ (m j : Nat), s ≤ j → j ≤ e → e + 1 ≤ j + m → ∃ m', fX7_readRound_c154 po (nI L) G k m rd at' so (nI s) (nI e) fa fA h x1 x4 (nI (nv b s j)) (nI j) = fX7_readRound_c154 po (nI L) G k (m' + 1) rd at' so (nI s) (nI e) fa fA h x1 x4 (nI (nv b s e)) (nI e) := by
  intro m
  have hL := T.1
  induction m with
  | zero => intro j h1 h2; omega
  | succ m ih =>
    intro j h1 h2 h5
    by_cases q : j = e
    · subst q; exact ⟨m, rfl⟩
    · obtain ⟨m', em⟩ := ih (j + 1) (by omega) (by omega) (by omega)
      refine ⟨m', ?_⟩
      rw [← em]
      have hf := h3 j h1 (by omega)
      have e1 : (((10 : Int32) * nI (nv b s j)) + nI (b j)) - (48 : Int32) = nI (nv b s (j + 1)) := by
        rw [show (10 : Int32) = nI 10 from rfl, show (48 : Int32) = nI 48 from rfl, nI_mul, nI_add, pk_sub (by have := hf.1; omega)]
        congr 1
        unfold nv
        have := hf.1
        by_cases c : j = s
        · subst c; rw [if_pos rfl, if_neg (by omega), if_pos rfl]; omega
        · have c2 : j = s + 1 := by omega
          subst c2
          have h48 := (h3 s (by omega) (by omega)).1
          rw [if_neg c, if_pos rfl, if_neg (by omega), if_neg (by omega)]
          omega
      conv => lhs; rw [fX7_readRound_c154]
      rw [if_neg (nI_ge (by omega) (by omega)), ldx_n (by omega) (by decide), (T.2 j (by omega)).2.1, bnd_i, e1, nI_1]
theorem nv_lt {b : Nat → Nat} {s e : Nat} (h : e = s + 1 ∨ e = s + 2) (h3 : ∀ i, s ≤ i → i < e → isF (b i)) : nv b s e < 100 := by
  unfold nv
  have a := h3 s (Nat.le_refl _) (by omega)
  unfold isF at a
  rcases h with h | h
  · rw [if_neg (by omega), if_pos h]; omega
  · have c := h3 (s + 1) (by omega) (by omega)
    unfold isF at c
    rw [if_neg (by omega), if_neg (by omega)]; omega
theorem nums {F G : Nat → Int32} {b : Nat → Nat} {L : Nat} (T : Tp F G b L) {n : Nat} (hn : n ≤ 8) {r : Nat} (hr : r < 20) (h : Nat → Int32) {x1 : Int64} (hx1 : lg_cmp x1 491496238692 = 0) : ∀ (m m' told s e v : Nat) (tk so nu fA : Int32) (g : Nat → Int32), TokR b G L s e tk so nu → v < 2 ^ n → g r = nI v → told ≤ cnt v n → 9 ≤ told + m → 10 ≤ told + m' →
    ∃ (fa tk' so' nu' fA' : Int32) (s' e' v' : Nat) (g' : Nat → Int32), fX2_readNumbers_c2 (nI L) (nI r) F m tk (nI s) (nI e) nu g (nI n) (nI told) = some (fa, tk', nI s', nI e', nu', g') ∧ fX7_readRound_c122 (nI n) (nI L) G m' (nI r) (nI e) so (nI s) (nI e) 0 fA h x1 (nI v) = fX7_readRound_c231 (nI n) (nI L) G (nI r) (nI e') so' (nI s') (nI e') fa fA' h (nI v') ∧ TokR b G L s' e' tk' so' nu' ∧ (fa = 0 ∨ (fa = 2 ∧ fA' = nI s')) ∧ v' < 2 ^ n ∧ g' r = nI v' ∧ ∀ i, i ≠ r → g' i = g i := by
  intro m
  have hL := T.1
  have h8 := pow8 hn
  induction m with
  | zero =>
    intro m' told s e v tk so nu fA g K hv hg ht h1
    have := cnt_le v n
    omega
  | succ m ih =>
    intro m' told s e v tk so nu fA g K hv hg ht h1 h2
    have hc := cnt_le v n
    obtain ⟨k1, hk1⟩ : ∃ k, m' = k + 1 + 1 := ⟨m' - 2, by omega⟩
    subst hk1
    rw [fX2_readNumbers_c2, if_neg (show ¬ (8 : Int32) < nI told from nI_nlt (show told ≤ 8 by omega) (by decide))]
    rw [fX7_readRound_c122, if_pos rfl, if_pos hx1]
    by_cases q : tk = 5
    · have hso := K.2.2.2.1.mp q
      obtain ⟨n1, n2, n3⟩ := K.2.2.2.2.2.1 q
      have nlt := nv_lt n1 n2
      obtain ⟨m1, em⟩ := m154_loop T K.2.1 (by omega) n2 (nI n) (fX7_readRound_c122 (nI n) (nI L) G (k1 + 1)) (nI r) (nI e) so 0 fA h x1 (nI v) FU s (Nat.le_refl _) K.1 (by have := K.2.1; unfold FU; omega)
      rw [show nv b s s = 0 from if_pos rfl, nI_0] at em
      rw [if_pos q, if_pos hso, em, fX7_readRound_c154, if_pos (nI_le (Nat.le_refl _) (by have := K.2.1; omega)), n3]
      have bad : fX7_readRound_c207 (nI n) (nI L) G (fX7_readRound_c122 (nI n) (nI L) G (k1 + 1)) (nI r) (nI e) so (nI s) (nI e) 0 fA h x1 (nI v) = fX7_readRound_c231 (nI n) (nI L) G (nI r) (nI e) so (nI s) (nI e) 2 (nI s) h (nI v) := by
        unfold fX7_readRound_c207 fX7_bad
        rw [if_pos rfl, bd2_i, fX7_readRound_c122, if_neg (by decide)]
      have K' : TokR b G L s e tk so (nI (nv b s e)) := by rw [← n3]; exact K
      by_cases c : n ≤ nv b s e
      · rw [if_pos (nI_le c (by omega)), if_pos (nI_le c (by omega)), bad]
        exact ⟨2, tk, so, _, nI s, s, e, v, g, rfl, rfl, K', Or.inr ⟨rfl, rfl⟩, hv, hg, fun i _ => rfl⟩
      · rw [if_neg (nI_ge (by omega) (by omega)), if_neg (nI_ge (by omega) (by omega)), ldx_n hr (by decide), hg]
        by_cases t : v.testBit (nv b s e) = true
        · rw [if_pos ((bit_is (by omega) (by omega)).mpr t), if_pos ((bit_is (by omega) (by omega)).mpr t), bad]
          exact ⟨2, tk, so, _, nI s, s, e, v, g, rfl, rfl, K', Or.inr ⟨rfl, rfl⟩, hv, hg, fun i _ => rfl⟩
        · rw [if_neg (fun w => t ((bit_is (by omega) (by omega)).mp w)), if_neg (fun w => t ((bit_is (by omega) (by omega)).mp w)), ldx_n hr (by decide), hg, sti_n hr (by decide), bnd_i, sh1 _ (by omega), nI_or, nI_1]
          obtain ⟨tk2, so2, nu2, s2, e2, a1, a2, a3⟩ := tok T K.2.1 tk (nI s) (nI (nv b s e)) so (nI s) (nI e)
          rw [a1, bd4_i, a2, bd4_i]
          have hb : (v ||| 2 ^ nv b s e).testBit (nv b s e) = true := by rw [Nat.testBit_or, Nat.testBit_two_pow_self, Bool.or_true]
          have hlt := cnt_lt (sub_or v (2 ^ nv b s e)) t hb n (by omega)
          have hle := cnt_le (v ||| 2 ^ nv b s e) n
          obtain ⟨fa, tk', so', nu', fA', s', e', v', g', b1, b2, b3, b4, b5, b6, b7⟩ := ih (k1 + 1) (told + 1) s2 e2 (v ||| 2 ^ nv b s e) tk2 so2 nu2 fA (upd g r (nI (v ||| 2 ^ nv b s e))) a3 (Nat.or_lt_two_pow hv (p2_lt (by omega))) (upd_eq _ _ _) (by omega) (by omega) (by omega)
          exact ⟨fa, tk', so', nu', fA', s', e', v', g', b1, b2, b3, b4, b5, b6, fun i hi => by rw [b7 i hi, upd_ne _ _ hi]⟩
    · rw [if_neg q, if_neg (fun w => q (K.2.2.2.1.mpr w))]
      exact ⟨0, tk, so, nu, fA, s, e, v, g, rfl, rfl, K, Or.inl rfl, hv, hg, fun i _ => rfl⟩
/-! schedule: a round -/
def agr (n r : Nat) (g h : Nat → Int32) : Prop := ∀ i, i < r → h i = g i ∧ (g i = -1 ∨ ∃ c : Nat, c < 2 ^ n ∧ g i = nI c)
def Rd (b : Nat → Nat) (G : Nat → Int32) (n L r : Nat) (C : Option (Int32 × Int32 × Int32 × Int32 × Int32 × Int32 × (Nat → Int32))) (M : Option (Int32 × Int32 × Int32 × Int32 × Int32 × Int32 × Int32 × (Nat → Int32))) : Prop :=
  ∃ (fa rr tk nu be so fA rm at' fr ti : Int32) (s e : Nat) (g h : Nat → Int32), C = some (fa, rr, tk, nI s, be, nu, g) ∧ M = some (rm, at', so, fr, ti, fa, fA, h) ∧ ((fa = 0 ∧ r < 20 ∧ rr = nI (r + 1) ∧ rm = nI (r + 1) ∧ at' = nI e ∧ fr = nI s ∧ ti = nI e ∧ be = nI e ∧ TokR b G L s e tk so nu ∧ agr n (r + 1) g h) ∨ ((fa = 1 ∨ fa = 2 ∨ fa = 3) ∧ fA = nI s))
theorem rd_bad {b : Nat → Nat} {G : Nat → Int32} {n L r s : Nat} {C : Option (Int32 × Int32 × Int32 × Int32 × Int32 × Int32 × (Nat → Int32))} {M : Option (Int32 × Int32 × Int32 × Int32 × Int32 × Int32 × Int32 × (Nat → Int32))} (fa : Int32) (hf : fa = 1 ∨ fa = 2 ∨ fa = 3) {rr tk be nu rm at' so fr ti : Int32} {g h : Nat → Int32} (h1 : C = some (fa, rr, tk, nI s, be, nu, g)) (h2 : M = some (rm, at', so, fr, ti, fa, nI s, h)) : Rd b G n L r C M :=
  ⟨fa, rr, tk, nu, be, so, nI s, rm, at', fr, ti, s, 0, g, h, h1, h2, Or.inr ⟨hf, rfl⟩⟩
theorem rtail {F G : Nat → Int32} {b : Nat → Nat} {L : Nat} (T : Tp F G b L) {n r : Nat} (hr : r < 20) {s e : Nat} {tk so nu fa fA x : Int32} {g h : Nat → Int32} (K : TokR b G L s e tk so nu) (hf : fa = 0 ∨ (fa = 2 ∧ fA = nI s)) (hg : agr n r g h) (hx : g r = x) (hx2 : x = -1 ∨ ∃ c : Nat, c < 2 ^ n ∧ x = nI c) : Rd b G n L r (fX2_readRound_c45 (nI L) F (nI r) tk (nI s) (nI e) nu g fa) (fX7_readRound_c231 (nI n) (nI L) G (nI r) (nI e) so (nI s) (nI e) fa fA h x) := by
  unfold fX2_readRound_c45 fX7_readRound_c231
  rcases hf with rfl | ⟨rfl, rfl⟩
  · rw [if_pos rfl, if_pos rfl]
    unfold fX2_readRound_c60 fX7_readRound_c252 fX7_readRound_c255 fX7_need fX7_need_c9 fX7_bad
    by_cases q : tk = 6
    · rw [if_pos q, if_pos (K.2.2.2.2.1.mp q), if_pos rfl, bnd_i, if_neg (by decide), if_pos rfl]
      obtain ⟨tk2, so2, nu2, s2, e2, a1, a2, a3⟩ := tok T K.2.1 tk (nI s) nu so (nI s) (nI e)
      rw [a1, bd4_i, a2, bd4_i, bd6_i, if_pos rfl, sti_n hr (by decide), nI_1]
      refine ⟨0, _, tk2, nu2, _, so2, fA, _, _, _, _, s2, e2, g, _, rfl, rfl, Or.inl ⟨rfl, hr, rfl, rfl, rfl, rfl, rfl, rfl, a3, fun i hi => ?_⟩⟩
      by_cases c : i = r
      · subst c; rw [upd_eq, hx]; exact ⟨rfl, hx2⟩
      · rw [upd_ne _ _ c]; exact hg i (by omega)
    · rw [if_neg q, if_neg (fun w => q (K.2.2.2.2.1.mpr w)), if_neg (by decide), if_pos rfl, if_pos rfl, bd2_i, if_neg (by decide), bd6_i, if_neg (by decide)]
      exact rd_bad 1 (by decide) rfl rfl
  · rw [if_neg (by decide), if_neg (by decide)]
    unfold fX2_readRound_c60 fX7_readRound_c255
    rw [if_neg (by decide), if_neg (by decide)]
    exact rd_bad 2 (by decide) rfl rfl
theorem m122_f {po : Int32} {L : Int32} {G : Nat → Int32} {rd at' so fr ti fa fA : Int32} {h : Nat → Int32} {w : Int64} {x4 : Int32} (hf : ¬ fa = 0) : fX7_readRound_c122 po L G FU rd at' so fr ti fa fA h w x4 = some (rd, at', so, fr, ti, fa, fA, h) := by
  rw [show FU = 99999 + 1 from by decide, fX7_readRound_c122, if_neg hf]
  unfold fX7_readRound_c231 fX7_readRound_c255
  rw [if_neg hf, if_neg hf]
theorem m73_f {po : Int32} {L : Int32} {G : Nat → Int32} {r : Nat} (hr : r ≤ 20) {at' so fr ti fa fA fa0 fA0 : Int32} {h : Nat → Int32} {w : Int64} {x3 : Int32} (hn : fX7_need L at' so fr ti fa0 fA0 G x3 = some (at', so, fr, ti, fa, fA)) (hf : ¬ fa = 0) : fX7_readRound_c73 po L G (nI r) at' so fr ti fa0 fA0 h w x3 = some (nI r, at', so, fr, ti, fa, fA, h) := by
  unfold fX7_readRound_c73
  rw [hn, bd6_i]
  by_cases a : lg_cmp w 6384748 = 0
  · rw [if_pos a, m122_f hf]
  · rw [if_neg a]
    by_cases c : lg_cmp w 500219601765 = 0
    · rw [if_pos c]
      by_cases z : r = 0
      · subst z; rw [if_pos (by decide), m122_f hf]
      · rw [if_neg (nI_nle (by omega) (by omega)), nI_dec (by omega), ldx_n (by omega) (by decide), m122_f hf]
    · rw [if_neg c, m122_f hf]
theorem need_f {L : Int32} {G : Nat → Int32} {at' so fr ti fa fA : Int32} (hf : ¬ fa = 0) : fX7_need L at' so fr ti fa fA G 1 = some (at', so, fr, ti, fa, fA) := by
  unfold fX7_need fX7_need_c9
  rw [if_neg (by decide), if_neg hf]
theorem need_0 {L : Int32} {G : Nat → Int32} {at' so fr ti fA : Int32} : fX7_need L at' so fr ti 0 fA G 0 = some (at', so, fr, ti, 1, fr) := by
  unfold fX7_need fX7_need_c9 fX7_bad
  rw [if_pos rfl, if_pos rfl, bd2_i, if_neg (by decide)]
theorem fow_w {r : Nat} (hr : r ≤ 20) {tk : Int32} (h : tk = 2 ∨ tk = 3) : fX2_faultOfWord (nI r) tk = some (if r = 20 then 3 else 0) := by
  have e : fX2_faultOfWord (nI r) tk = fX2_faultOfWord_c43 (nI r) tk := by
    unfold fX2_faultOfWord fX2_faultOfWord_c26
    rcases h with rfl | rfl
    · rw [if_pos rfl, if_neg (by decide)]
    · rw [if_neg (by decide), if_pos rfl, if_neg (by decide)]
  rw [e]
  unfold fX2_faultOfWord_c43
  by_cases q : r = 20
  · rw [if_pos q, if_neg (show ¬ nI r < (20 : Int32) from nI_nlt (show 20 ≤ r by omega) (by omega))]
  · rw [if_neg q, if_pos (show nI r < (20 : Int32) from nI_lt (show r < 20 by omega) (by decide))]
theorem fow_4 {r : Nat} (hr : r ≤ 20) : fX2_faultOfWord (nI r) 4 = some (if r = 0 then 2 else if r = 20 then 3 else 0) := by
  unfold fX2_faultOfWord fX2_faultOfWord_c26 fX2_faultOfWord_c43
  rw [if_neg (by decide), if_neg (by decide), if_pos rfl, if_pos rfl]
  by_cases z : r = 0
  · subst z; rw [if_pos (by decide), if_pos rfl]
  · rw [if_neg (nI_ne0 (by omega) (by omega)), if_neg z]
    by_cases q : r = 20
    · rw [if_pos q, if_neg (show ¬ nI r < (20 : Int32) from nI_nlt (show 20 ≤ r by omega) (by omega))]
    · rw [if_neg q, if_pos (show nI r < (20 : Int32) from nI_lt (show r < 20 by omega) (by decide))]
theorem m55_20 {po L : Int32} {G : Nat → Int32} {at' so fr ti fA : Int32} {h : Nat → Int32} {w : Int64} : fX7_readRound_c55 po L G (nI 20) at' so fr ti 0 fA h w 1 = some (nI 20, at', so, fr, ti, 3, fr, h) := by
  unfold fX7_readRound_c55 fX7_bad
  rw [if_neg (by decide), if_pos (by decide), if_pos rfl, bd2_i]
  exact m73_f (Nat.le_refl _) (need_f (by decide)) (by decide)
theorem m55_s {po L : Int32} {G : Nat → Int32} {r : Nat} (hr : r < 20) {at' so fr ti fa fA : Int32} {h : Nat → Int32} {w : Int64} : fX7_readRound_c55 po L G (nI r) at' so fr ti fa fA h w 1 = fX7_readRound_c73 po L G (nI r) at' so fr ti fa fA h w 1 := by
  unfold fX7_readRound_c55
  rw [if_neg (by decide), if_neg (show ¬ nI r = (20 : Int32) from fun u => absurd ((nI_eq (b := 20) (by omega) (by decide)).mp u) (by omega))]
theorem need_s {L : Int32} {G : Nat → Int32} {at' so fr ti fA a s f t : Int32} (hs : fX7_step L at' so fr ti G = some (a, s, f, t)) : fX7_need L at' so fr ti 0 fA G 1 = some (a, s, f, t, 0, fA) := by
  unfold fX7_need fX7_need_c9
  rw [if_neg (by decide), if_pos rfl, hs, bd4_i]
theorem rd_ret {b : Nat → Nat} {G : Nat → Int32} {n L r : Nat} {C C' : Option (Int32 × Int32 × Int32 × Int32 × Int32 × Int32 × (Nat → Int32))} {M M' : Option (Int32 × Int32 × Int32 × Int32 × Int32 × Int32 × Int32 × (Nat → Int32))} (h : Rd b G n L r C' M') (h1 : C = C') (h2 : M = M') : Rd b G n L r C M := by rw [h1, h2]; exact h
theorem rdR {F G : Nat → Int32} {b : Nat → Nat} {L : Nat} (T : Tp F G b L) {n r : Nat} (hn : n ≤ 8) (hr : r ≤ 20) {s e : Nat} {tk so nu : Int32} (fA : Int32) {g h : Nat → Int32} (K : TokR b G L s e tk so nu) (hg : agr n r g h) : Rd b G n L r (fX2_readRound (nI L) (nI r) tk (nI s) (nI e) nu F g (nI n)) (fX7_readRound (nI n) (nI r) (nI L) (nI e) so (nI s) (nI e) 0 fA h G) := by
  obtain ⟨w, w1, w2, w3, w4⟩ := K.2.2.2.2.2.2
  -- a wrong word, or one too many
  have cb : ∀ fa : Int32, ¬ fa = 0 → fX2_faultOfWord (nI r) tk = some fa → fX2_readRound (nI L) (nI r) tk (nI s) (nI e) nu F g (nI n) = some (fa, nI r, tk, nI s, nI e, nu, g) := fun fa h0 h1 => by
    unfold fX2_readRound
    rw [h1, bd1_i, if_neg h0]
  obtain ⟨tk2, so2, nu2, s2, e2, a1, a2, a3⟩ := tok T K.2.1 tk (nI s) nu so (nI s) (nI e)
  by_cases q2 : tk = 2
  · have v2 := w2.mp q2
    have v3 : ¬ lg_cmp w 6384748 = 0 := fun u => absurd (q2.symm.trans (w3.mpr u)) (by decide)
    have v4 : ¬ lg_cmp w 500219601765 = 0 := fun u => absurd (q2.symm.trans (w4.mpr u)) (by decide)
    have em : fX7_readRound (nI n) (nI r) (nI L) (nI e) so (nI s) (nI e) 0 fA h G = fX7_readRound_c55 (nI n) (nI L) G (nI r) (nI e) so (nI s) (nI e) 0 fA h w 1 := by
      unfold fX7_readRound
      rw [w1, bd1_i, if_pos v2]
      unfold fX7_readRound_c29 fX7_readRound_c34
      rw [if_neg v4]
    have hfo := fow_w hr (Or.inl q2)
    by_cases q : r = 20
    · rw [if_pos q] at hfo
      subst q
      exact rd_bad 3 (by decide) (cb 3 (by decide) hfo) (em.trans m55_20)
    · rw [if_neg q] at hfo
      have hr' : r < 20 := by omega
      obtain ⟨fa, tk', so', nu', fA', s', e', v', g', b1, b2, b3, b4, b5, b6, b7⟩ := nums T hn hr' h v2 FU FU 0 s2 e2 0 tk2 so2 nu2 fA (upd g r 0) a3 (Nat.two_pow_pos n) (upd_eq _ _ _) (Nat.zero_le _) (by unfold FU; omega) (by unfold FU; omega)
      refine rd_ret (rtail T hr' (n := n) (x := nI v') (h := h) b3 b4 (fun i hi => ?_) b6 (Or.inr ⟨v', b5, rfl⟩)) ?_ ?_
      · rw [b7 i (by omega), upd_ne _ _ (by omega)]; exact hg i hi
      · unfold fX2_readRound fX2_soundsAtWord fX2_readNumbers
        rw [hfo, bd1_i, if_pos rfl, if_neg (by rw [q2]; decide), if_neg (by rw [q2]; decide), bd1_i, sti_n hr' (by decide), a1, bd4_i, if_pos q2]
        rw [nI_0] at b1
        rw [b1, bd6_i]
      · rw [em, m55_s hr']
        unfold fX7_readRound_c73
        rw [need_s a2, bd6_i, if_neg v3, if_neg v4]
        rw [nI_0] at b2
        exact b2
  · have v2 : ¬ lg_cmp w 491496238692 = 0 := fun u => q2 (w2.mpr u)
    by_cases q3 : tk = 3
    · have v3 := w3.mp q3
      have v4 : ¬ lg_cmp w 500219601765 = 0 := fun u => absurd (q3.symm.trans (w4.mpr u)) (by decide)
      have em : fX7_readRound (nI n) (nI r) (nI L) (nI e) so (nI s) (nI e) 0 fA h G = fX7_readRound_c55 (nI n) (nI L) G (nI r) (nI e) so (nI s) (nI e) 0 fA h w 1 := by
        unfold fX7_readRound
        rw [w1, bd1_i, if_neg v2, if_pos v3]
        unfold fX7_readRound_c29 fX7_readRound_c34
        rw [if_neg v4]
      have hfo := fow_w hr (Or.inr q3)
      by_cases q : r = 20
      · rw [if_pos q] at hfo
        subst q
        exact rd_bad 3 (by decide) (cb 3 (by decide) hfo) (em.trans m55_20)
      · rw [if_neg q] at hfo
        have hr' : r < 20 := by omega
        refine rd_ret (rtail T hr' (n := n) (x := -1) (g := upd g r (-1)) (h := h) (fa := 0) (fA := fA) a3 (Or.inl rfl) (fun i hi => ?_) (upd_eq _ _ _) (Or.inl rfl)) ?_ ?_
        · rw [upd_ne _ _ (by omega)]; exact hg i hi
        · unfold fX2_readRound fX2_soundsAtWord
          rw [hfo, bd1_i, if_pos rfl, if_pos q3, bd1_i, sti_n hr' (by decide), a1, bd4_i, if_neg q2]
        · rw [em, m55_s hr']
          unfold fX7_readRound_c73
          rw [need_s a2, bd6_i, if_pos v3, show FU = 99999 + 1 from by decide, fX7_readRound_c122, if_pos rfl, if_neg v2]
    · have v3 : ¬ lg_cmp w 6384748 = 0 := fun u => q3 (w3.mpr u)
      by_cases q4 : tk = 4
      · have v4 := w4.mp q4
        have hfo : fX2_faultOfWord (nI r) tk = some (if r = 0 then 2 else if r = 20 then 3 else 0) := by rw [q4]; exact fow_4 hr
        by_cases z : r = 0
        · rw [if_pos z] at hfo
          subst z
          refine rd_bad 2 (by decide) (cb 2 (by decide) hfo) (rm := nI 0) (at' := nI e) (so := so) (fr := nI s) (ti := nI e) (h := h) ?_
          unfold fX7_readRound
          rw [w1, bd1_i, if_neg v2, if_neg v3, if_pos v4]
          unfold fX7_readRound_c29 fX7_readRound_c34 fX7_bad
          rw [if_pos v4, if_pos (by decide), if_pos rfl, bd2_i, m55_s (by decide)]
          exact m73_f (by decide) (need_f (by decide)) (by decide)
        · rw [if_neg z] at hfo
          have em : fX7_readRound (nI n) (nI r) (nI L) (nI e) so (nI s) (nI e) 0 fA h G = fX7_readRound_c55 (nI n) (nI L) G (nI r) (nI e) so (nI s) (nI e) 0 fA h w 1 := by
            unfold fX7_readRound
            rw [w1, bd1_i, if_neg v2, if_neg v3, if_pos v4]
            unfold fX7_readRound_c29 fX7_readRound_c34
            rw [if_pos v4, if_neg (nI_ne0 (by omega) (by omega))]
          by_cases q : r = 20
          · rw [if_pos q] at hfo
            subst q
            exact rd_bad 3 (by decide) (cb 3 (by decide) hfo) (em.trans m55_20)
          · rw [if_neg q] at hfo
            have hr' : r < 20 := by omega
            obtain ⟨p1, p2⟩ := hg (r - 1) (by omega)
            refine rd_ret (rtail T hr' (n := n) (x := g (r - 1)) (g := upd g r (g (r - 1))) (h := h) (fa := 0) (fA := fA) a3 (Or.inl rfl) (fun i hi => ?_) (upd_eq _ _ _) p2) ?_ ?_
            · rw [upd_ne _ _ (by omega)]; exact hg i hi
            · unfold fX2_readRound fX2_soundsAtWord
              rw [hfo, bd1_i, if_pos rfl, if_neg q3, if_pos q4, if_neg (nI_nle (by omega) (by omega)), nI_dec (by omega), ldx_n (by omega) (by decide), bd1_i, sti_n hr' (by decide), a1, bd4_i, if_neg q2]
            · rw [em, m55_s hr']
              unfold fX7_readRound_c73
              rw [need_s a2, bd6_i, if_neg v3, if_pos v4, if_neg (nI_nle (by omega) (by omega)), nI_dec (by omega), ldx_n (by omega) (by decide), p1, show FU = 99999 + 1 from by decide, fX7_readRound_c122, if_pos rfl, if_neg v2]
      · have v4 : ¬ lg_cmp w 500219601765 = 0 := fun u => q4 (w4.mpr u)
        have hfo : fX2_faultOfWord (nI r) tk = some 1 := by
          unfold fX2_faultOfWord
          rw [if_neg q2, if_neg q3, if_neg q4]
        refine rd_bad 1 (by decide) (cb 1 (by decide) hfo) (rm := nI r) (at' := nI e) (so := so) (fr := nI s) (ti := nI e) (h := h) ?_
        unfold fX7_readRound
        rw [w1, bd1_i, if_neg v2, if_neg v3, if_neg v4]
        unfold fX7_readRound_c34 fX7_readRound_c55
        rw [if_neg v4, if_pos rfl]
        exact m73_f hr need_0 (by decide)
