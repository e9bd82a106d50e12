/-! jammed: the reference -/
theorem nar0 : vp_nar .boolean 0 = 0 := by decide +kernel
theorem nar1 : vp_nar .boolean 1 = 1 := by decide +kernel
def jst (x : Int32) (n : Nat) (nb : Nat → Nat) (b s : Nat) (may : Nat → Int32) (i y : Nat) : Prop := ∃ k, k < i ∧ may k = 1 ∧ (y = 256 * (k / 256) + spr x n nb (k % 256) s ∨ (k / 256 < b ∧ y = k + 256))
theorem jst_s {x : Int32} {n : Nat} {nb : Nat → Nat} {b s : Nat} {may : Nat → Int32} {i y : Nat} : jst x n nb b s may (i + 1) y ↔ (jst x n nb b s may i y ∨ (may i = 1 ∧ (y = 256 * (i / 256) + spr x n nb (i % 256) s ∨ (i / 256 < b ∧ y = i + 256)))) := by
  constructor
  · rintro ⟨k, h1, h2, h3⟩
    by_cases q : k = i
    · subst q; exact Or.inr ⟨h2, h3⟩
    · exact Or.inl ⟨k, by omega, h2, h3⟩
  · rintro (⟨k, h1, h2, h3⟩ | ⟨h2, h3⟩)
    · exact ⟨k, by omega, h2, h3⟩
    · exact ⟨i, by omega, h2, h3⟩
/-- values are 0 or 1, and 1 just where P -/
def isB (T : Nat → Int32) (P : Nat → Prop) : Prop := ∀ y, y < 1536 → (T y = 0 ∨ T y = 1) ∧ (T y = 1 ↔ P y)
theorem isB_put {T : Nat → Int32} {P : Nat → Prop} (h : isB T P) (j : Nat) : isB (upd T j 1) (fun y => P y ∨ y = j) := by
  intro y hy
  by_cases q : y = j
  · subst q; rw [upd_eq]; exact ⟨Or.inr rfl, fun _ => Or.inr rfl, fun _ => rfl⟩
  · rw [upd_ne _ _ q]
    refine ⟨(h y hy).1, fun w => Or.inl ((h y hy).2.mp w), fun w => (h y hy).2.mpr (w.resolve_right q)⟩
theorem isB_of {T : Nat → Int32} {P Q : Nat → Prop} (h : isB T P) (g : ∀ y, P y ↔ Q y) : isB T Q := fun y hy => ⟨(h y hy).1, (h y hy).2.trans (g y)⟩
abbrev K94 := Int32 → (Nat → Int32) → (Nat → Int32) → Int32 → Int32 → Int32 → Int32 → Option (Int32 × Int32 × (Nat → Int32) × (Nat → Int32))
theorem jm_step {n : Nat} {nb : Nat → Nat} (h : iN n nb) {F : Nat → Int32} (hF : ∀ i, i < 8 → F i = nI (nb i)) {x : Int32} (hx : x = 0 ∨ x = 1) (R : Nat → Int32) (k94 : K94) (kk r : Int32) {s b : Nat} (g : Int32) (hb : b ≤ 5) (hs : fX7_soundsIn (nI n) kk R r = some (nI s)) {may : Nat → Int32} (hm : ∀ k, k < 1536 → (may k = 0 ∨ may k = 1) ∧ (may k = 1 → k % 256 < 2 ^ n)) :
    ∀ (m i : Nat) (T : Nat → Int32), i ≤ 1536 → 1537 ≤ i + m → isB T (jst x n nb b s may i) → ∃ T' : Nat → Int32, fX7_jammed_c173 (nI n) kk F R k94 m 0 may T x (nI b) g r (nI i) = fX7_jammed_c256 (nI n) kk F R k94 FU 0 may T' x (nI b) g r 0 ∧ isB T' (jst x n nb b s may 1536) := by
  have hn := h.1
  have h8 := pow8 hn
  intro m
  induction m with
  | zero => intro i T h1 h2; omega
  | succ m ih =>
    intro i T h1 h2 h3
    rw [fX7_jammed_c173]
    by_cases q : i = 1536
    · subst q
      rw [if_pos (show (1536 : Int32) ≤ nI 1536 from nI_le (Nat.le_refl _) (by decide))]
      exact ⟨T, rfl, h3⟩
    · have hi : i < 1536 := by omega
      rw [if_neg (show ¬ (1536 : Int32) ≤ nI i from nI_ge hi (by decide)), ldx_n hi (by decide), nI_1]
      rcases (hm i hi).1 with e | e
      · rw [if_pos e]
        refine ih (i + 1) T (by omega) (by omega) (isB_of h3 (fun y => ?_))
        rw [jst_s]
        refine ⟨Or.inl, fun w => w.elim id (fun w => ?_)⟩
        rw [e] at w; exact absurd w.1 (by decide)
      · have hq := (hm i hi).2 e
        have hp := spr_lt (h := x) (nb := nb) (s := s) hq
        rw [if_neg (by rw [e]; decide), hs, bd1_i, show (256 : Int32) = nI 256 from rfl, pk_rem (by omega) (by decide) (by decide), mspr_of h hF hx hq, bd1_i, pk_div (by omega) (by decide) (by decide), nI_mul, nI_add, sti_n (by omega) (by decide), nar1, nI_add]
        by_cases c : b ≤ i / 256
        · rw [if_pos (nI_le c (by omega))]
          refine ih (i + 1) _ (by omega) (by omega) (isB_of (isB_put h3 _) (fun y => ?_))
          rw [jst_s]
          refine ⟨fun w => w.elim Or.inl (fun w => Or.inr ⟨e, Or.inl w⟩), fun w => w.elim Or.inl (fun w => Or.inr (w.2.elim id (fun w => by omega)))⟩
        · rw [if_neg (nI_ge (by omega) (by omega)), sti_n (by omega) (by decide)]
          refine ih (i + 1) _ (by omega) (by omega) (isB_of (isB_put (isB_put h3 _) _) (fun y => ?_))
          rw [jst_s]
          constructor
          · rintro ((w | w) | w)
            · exact Or.inl w
            · exact Or.inr ⟨e, Or.inl w⟩
            · exact Or.inr ⟨e, Or.inr ⟨by omega, w⟩⟩
          · rintro (w | ⟨-, w | ⟨-, w⟩⟩)
            · exact Or.inl (Or.inl w)
            · exact Or.inl (Or.inr w)
            · exact Or.inr w
theorem jm_copy (mp kk : Int32) (F R : Nat → Int32) (k94 : K94) (x b g r : Int32) {T : Nat → Int32} (hT : ∀ y, y < 1536 → T y = 0 ∨ T y = 1) :
    ∀ (m i : Nat) (A : Nat → Int32), i ≤ 1536 → 1537 ≤ i + m → (∀ y, y < i → A y = T y) → ∃ A' : Nat → Int32, fX7_jammed_c256 mp kk F R k94 m 0 A T x b g r (nI i) = k94 0 A' T x b g (r + 1) ∧ ∀ y, y < 1536 → A' y = T y := by
  intro m
  induction m with
  | zero => intro i A h1 h2; omega
  | succ m ih =>
    intro i A h1 h2 h3
    rw [fX7_jammed_c256]
    by_cases q : i = 1536
    · subst q
      rw [if_pos (show (1536 : Int32) ≤ nI 1536 from nI_le (Nat.le_refl _) (by decide))]
      exact ⟨A, rfl, h3⟩
    · have hi : i < 1536 := by omega
      have hv : vp_nar .boolean (T i) = T i := by
        rcases hT i hi with e | e <;> rw [e]
        · exact nar0
        · exact nar1
      rw [if_neg (show ¬ (1536 : Int32) ≤ nI i from nI_ge hi (by decide)), ldx_n hi (by decide), hv, sti_n hi (by decide), nI_1]
      refine ih (i + 1) _ (by omega) (by omega) (fun y hy => ?_)
      by_cases e : y = i
      · subst e; rw [upd_eq]
      · rw [upd_ne _ _ e]; exact h3 y (by omega)
theorem jm_done (mp kk : Int32) (F R : Nat → Int32) (k94 : K94) (x b r : Int32) {g : Nat} (hg : g < 256) {A : Nat → Int32} (hA : ∀ y, y < 1536 → A y = 0 ∨ A y = 1) :
    ∀ (m i : Nat) (T : Nat → Int32) (d : Int32), i ≤ 1536 → 1537 ≤ i + m → (∀ y, y < i → T y = 0) → ((d = 1 ∧ ∀ y, y < i → A y = 1 → y % 256 = g) ∨ (d = 0 ∧ ∃ y, y < i ∧ A y = 1 ∧ y % 256 ≠ g)) →
    ∃ T' : Nat → Int32, (∀ y, y < 1536 → T' y = 0) ∧ (((∀ y, y < 1536 → A y = 1 → y % 256 = g) ∧ fX7_jammed_c107 mp kk F R k94 m 0 A T x b (nI g) r d (nI i) = some (r, 0, A, T')) ∨ ((∃ y, y < 1536 ∧ A y = 1 ∧ y % 256 ≠ g) ∧ fX7_jammed_c107 mp kk F R k94 m 0 A T x b (nI g) r d (nI i) = fX7_jammed_c173 mp kk F R k94 FU 0 A T' x b (nI g) r 0)) := by
  intro m
  induction m with
  | zero => intro i T d h1 h2; omega
  | succ m ih =>
    intro i T d h1 h2 h3 h4
    rw [fX7_jammed_c107]
    unfold fX7_jammed_c145 fX7_jammed_c141 fX7_jammed_c146
    by_cases q : i = 1536
    · subst q
      rw [if_pos (show (1536 : Int32) ≤ nI 1536 from nI_le (Nat.le_refl _) (by decide))]
      refine ⟨T, h3, ?_⟩
      rcases h4 with ⟨rfl, w⟩ | ⟨rfl, w⟩
      · rw [if_neg (by decide)]; exact Or.inl ⟨w, rfl⟩
      · rw [if_pos rfl]; exact Or.inr ⟨w, rfl⟩
    · have hi : i < 1536 := by omega
      have hz : ∀ y, y < i + 1 → upd T i 0 y = 0 := fun y hy => by
        by_cases e : y = i
        · subst e; rw [upd_eq]
        · rw [upd_ne _ _ e]; exact h3 y (by omega)
      rw [if_neg (show ¬ (1536 : Int32) ≤ nI i from nI_ge hi (by decide)), sti_n hi (by decide), nar0, nI_1]
      rcases h4 with ⟨rfl, w⟩ | ⟨rfl, y, w1, w2, w3⟩
      · rw [if_neg (by decide), ldx_n hi (by decide), show (256 : Int32) = nI 256 from rfl, pk_rem (by omega) (by decide) (by decide)]
        by_cases e : A i = 0
        · rw [if_pos e, sti_n hi (by decide)]
          refine ih (i + 1) _ 1 (by omega) (by omega) hz (Or.inl ⟨rfl, fun y hy => ?_⟩)
          by_cases c : y = i
          · subst c; intro v; rw [e] at v; exact absurd v (by decide)
          · exact w y (by omega)
        · rw [if_neg e]
          by_cases v : i % 256 = g
          · rw [if_pos (by rw [v]), sti_n hi (by decide)]
            refine ih (i + 1) _ 1 (by omega) (by omega) hz (Or.inl ⟨rfl, fun y hy => ?_⟩)
            by_cases c : y = i
            · subst c; intro _; exact v
            · exact w y (by omega)
          · rw [if_neg (fun u => v ((nI_eq (by omega) (by omega)).mp u))]
            exact ih (i + 1) _ 0 (by omega) (by omega) hz (Or.inr ⟨rfl, i, by omega, (hA i hi).resolve_left e, v⟩)
      · rw [if_pos rfl]
        exact ih (i + 1) _ 0 (by omega) (by omega) hz (Or.inr ⟨rfl, y, by omega, w2, w3⟩)
theorem jm_init (mp kk : Int32) (F R T : Nat → Int32) (x b g : Int32) {a : Nat} (ha : a < 8) :
    ∀ (m i : Nat) (A : Nat → Int32), i ≤ 1536 → 1537 ≤ i + m → (∀ y, y < i → A y = if y = 2 ^ a then 1 else 0) → ∃ A' : Nat → Int32, fX7_jammed_c57 mp kk F R m 0 A T x (nI a) b g (nI i) = fX7_jammed_c94 mp kk F R FU 0 A' T x b g 0 ∧ ∀ y, y < 1536 → A' y = if y = 2 ^ a then 1 else 0 := by
  have h2a : 2 ^ a < 2 ^ 8 := p2_lt ha
  intro m
  induction m with
  | zero => intro i A h1 h2; omega
  | succ m ih =>
    intro i A h1 h2 h3
    rw [fX7_jammed_c57]
    by_cases q : i = 1536
    · subst q
      rw [if_pos (show (1536 : Int32) ≤ nI 1536 from nI_le (Nat.le_refl _) (by decide))]
      exact ⟨A, rfl, h3⟩
    · have hi : i < 1536 := by omega
      rw [if_neg (show ¬ (1536 : Int32) ≤ nI i from nI_ge hi (by decide)), sh1 a (by omega), nar0, nar1]
      by_cases c : i = 2 ^ a
      · rw [if_pos (by rw [c]), sti_n hi (by decide), nI_1]
        refine ih (i + 1) _ (by omega) (by omega) (fun y hy => ?_)
        by_cases e : y = i
        · subst e; rw [upd_eq, if_pos c]
        · rw [upd_ne _ _ e]; exact h3 y (by omega)
      · rw [if_neg (fun w => c ((nI_eq (by omega) (by omega)).mp w)), sti_n hi (by decide), nI_1]
        refine ih (i + 1) _ (by omega) (by omega) (fun y hy => ?_)
        by_cases e : y = i
        · subst e; rw [upd_eq, if_neg c]
        · rw [upd_ne _ _ e]; exact h3 y (by omega)
/-! the component -/
def own (x : Int32) (n : Nat) (nb : Nat → Nat) (s G : Nat) (SP : Nat → Nat) (j q v : Nat) : Prop := ((j ≤ q ∧ q < G ∧ spr x n nb q s ≠ q) ∧ SP q + 1 ≤ v) ∨ (¬ (j ≤ q ∧ q < G ∧ spr x n nb q s ≠ q) ∧ SP q ≤ v)
def jcur (x : Int32) (n : Nat) (nb : Nat → Nat) (b s G : Nat) (SP : Nat → Nat) (j : Nat) (cur : Nat → Nat) : Prop := ∀ q, q < 2 ^ n → cur q ≤ b + 1 ∧ ∀ v, v ≤ b → (cur q ≤ v ↔ (own x n nb s G SP j q v ∨ ∃ k, j ≤ k ∧ k < G ∧ spr x n nb k s = q ∧ k ≠ q ∧ SP k ≤ v))
def junt (x : Int32) (n : Nat) (nb : Nat → Nat) (b s G : Nat) (SP : Nat → Nat) (j : Nat) : Prop := ∃ k, j ≤ k ∧ k < G ∧ SP k ≤ b ∧ (spr x n nb k s ≠ G ∨ SP k < b)
theorem jcur_at {x : Int32} {n : Nat} {nb : Nat → Nat} {b s G : Nat} {SP : Nat → Nat} {j : Nat} {cur : Nat → Nat} (h : jcur x n nb b s G SP j cur) {q : Nat} (hq : q < 2 ^ n) (hj : q < j) (hS : SP q ≤ b + 1) : cur q = SP q := by
  obtain ⟨h1, h2⟩ := h q hq
  have h3 : ∀ v, v ≤ b → (cur q ≤ v ↔ SP q ≤ v) := by
    intro v hv
    rw [h2 v hv]
    constructor
    · rintro ((⟨w, -⟩ | ⟨-, w⟩) | ⟨k, k1, -, k3, k4, -⟩)
      · omega
      · exact w
      · have := sub_le (spr_sub x n nb k s)
        omega
    · intro w
      exact Or.inl (Or.inr ⟨by omega, w⟩)
  by_cases c : cur q ≤ b
  · have := (h3 _ c).mp (Nat.le_refl _)
    have := (h3 (SP q) (by omega)).mpr (Nat.le_refl _)
    omega
  · by_cases d : SP q ≤ b
    · have := (h3 _ d).mpr (Nat.le_refl _); omega
    · omega
theorem jx_down {n : Nat} {nb : Nat → Nat} (hn : n ≤ 8) {x : Int32} {Q : Nat → Int32} (hQ : ∀ t, t < 2 ^ n → Q t = nI (hea x n nb t)) {b s G f : Nat} (hb : b ≤ 5) (hG : G < 2 ^ n) (hf : 0 < f) {SP : Nat → Nat} (hSP : ∀ q, q < 2 ^ n → SP q ≤ b + 1) :
    ∀ (m j : Nat) (S : Nat → Int32) (cur : Nat → Nat) (u : Int32), f ≤ j → j ≤ G → j + 1 ≤ f + m → (∀ q, q < 2 ^ n → S q = nI (cur q)) → jcur x n nb b s G SP j cur → ((u = 1 ∧ junt x n nb b s G SP j) ∨ (u = 0 ∧ ¬ junt x n nb b s G SP j)) →
    ∃ (S' : Nat → Int32) (cur' : Nat → Nat) (u' : Int32), fX3_leavesSomeUntold_c8 Q m S (nI f) (nI G) (nI s) (nI b) u (nI j - 1) = some (u', S') ∧ (∀ q, q < 2 ^ n → S' q = nI (cur' q)) ∧ jcur x n nb b s G SP f cur' ∧ ((u' = 1 ∧ junt x n nb b s G SP f) ∨ (u' = 0 ∧ ¬ junt x n nb b s G SP f)) := by
  have h8 := pow8 hn
  intro m
  induction m with
  | zero => intro j S cur u h0 h1 h2; omega
  | succ m ih =>
    intro j S cur u h0 h1 h2 h3 h4 h5
    rw [fX3_leavesSomeUntold_c8, nI_dec (by omega)]
    by_cases q : j = f
    · subst q
      rw [if_pos (nI_lt (by omega) (by omega))]
      refine ⟨S, cur, u, ?_, h3, h4, h5⟩
      rcases h5 with ⟨rfl, -⟩ | ⟨rfl, -⟩
      · rw [zrx_1]
      · rw [zrx_0]
    · obtain ⟨k, rfl⟩ : ∃ k, j = k + 1 := ⟨j - 1, by omega⟩
      have hk : k < 2 ^ n := by omega
      have hm1 : nI k + (-1) = nI k - 1 := by rw [Int32.sub_eq_add_neg]
      have hS := hSP k hk
      have hSk : S k = nI (SP k) := by rw [h3 k hk, jcur_at h4 hk (by omega) hS]
      have hp := spr_lt (h := x) (nb := nb) (s := s) hk
      have hge := sub_le (spr_sub x n nb k s)
      rw [show k + 1 - 1 = k by omega, if_neg (nI_nlt (by omega) (by omega)), ldx_n (by omega) (by decide), hSk, hm1]
      by_cases c : b < SP k
      · rw [if_pos (nI_lt c (by omega))]
        refine ih k S cur u (by omega) (by omega) (by omega) h3 (fun q hq => ⟨(h4 q hq).1, fun v hv => ?_⟩) ?_
        · rw [(h4 q hq).2 v hv]
          unfold own
          constructor
          · rintro ((⟨w1, w2⟩ | ⟨w1, w2⟩) | ⟨i, i1, i2, i3, i4, i5⟩)
            · exact Or.inl (Or.inl ⟨⟨by omega, w1.2⟩, w2⟩)
            · by_cases e : q = k
              · subst e; omega
              · exact Or.inl (Or.inr ⟨fun z => w1 ⟨by omega, z.2⟩, w2⟩)
            · exact Or.inr ⟨i, by omega, i2, i3, i4, i5⟩
          · rintro ((⟨w1, w2⟩ | ⟨w1, w2⟩) | ⟨i, i1, i2, i3, i4, i5⟩)
            · by_cases e : q = k
              · subst e; omega
              · exact Or.inl (Or.inl ⟨⟨by omega, w1.2⟩, w2⟩)
            · exact Or.inl (Or.inr ⟨fun z => w1 ⟨by omega, z.2⟩, w2⟩)
            · by_cases e : i = k
              · subst e; omega
              · exact Or.inr ⟨i, by omega, i2, i3, i4, i5⟩
        · have hj : junt x n nb b s G SP k ↔ junt x n nb b s G SP (k + 1) := by
            constructor
            · rintro ⟨i, i1, i2, i3, i4⟩
              by_cases e : i = k
              · subst e; omega
              · exact ⟨i, by omega, i2, i3, i4⟩
            · rintro ⟨i, i1, i2, i3, i4⟩
              exact ⟨i, by omega, i2, i3, i4⟩
          rw [hj]; exact h5
      · rw [if_neg (nI_nlt (by omega) (by omega)), nI_and, ldx_n (Nat.lt_of_le_of_lt Nat.and_le_left (by omega)) (by decide), hQ _ (Nat.lt_of_le_of_lt Nat.and_le_left hk), nI_or]
        rw [show k ||| hea x n nb (k &&& s) = spr x n nb k s from rfl]
        have hc81 : ∀ (S1 : Nat → Int32), ∃ u' : Int32, fX3_leavesSomeUntold_c81 Q (fX3_leavesSomeUntold_c8 Q m) S1 (nI f) (nI G) (nI s) (nI b) u (nI k) (nI (SP k)) (nI (spr x n nb k s)) = fX3_leavesSomeUntold_c8 Q m S1 (nI f) (nI G) (nI s) (nI b) u' (nI k - 1) ∧ ((u' = 1 ∧ junt x n nb b s G SP k) ∨ (u' = 0 ∧ ¬ junt x n nb b s G SP k)) := by
          intro S1
          unfold fX3_leavesSomeUntold_c81 fX3_leavesSomeUntold_c99
          rw [hm1]
          rcases h5 with ⟨rfl, i, i1, i2, i3, i4⟩ | ⟨rfl, w⟩
          · rw [if_neg (by decide)]
            exact ⟨1, rfl, Or.inl ⟨rfl, i, by omega, i2, i3, i4⟩⟩
          · rw [if_pos rfl]
            by_cases e : spr x n nb k s = G
            · rw [if_pos (by rw [e])]
              by_cases d : b ≤ SP k
              · rw [if_pos (nI_le d (by omega))]
                refine ⟨0, rfl, Or.inr ⟨rfl, ?_⟩⟩
                rintro ⟨i, i1, i2, i3, i4⟩
                by_cases z : i = k
                · subst z
                  rcases i4 with i4 | i4
                  · exact i4 e
                  · omega
                · exact w ⟨i, by omega, i2, i3, i4⟩
              · rw [if_neg (nI_ge (by omega) (by omega))]
                exact ⟨1, rfl, Or.inl ⟨rfl, k, by omega, by omega, by omega, Or.inr (by omega)⟩⟩
            · rw [if_neg (fun z => e ((nI_eq (by omega) (by omega)).mp z))]
              exact ⟨1, rfl, Or.inl ⟨rfl, k, by omega, by omega, by omega, Or.inl e⟩⟩
        by_cases e : spr x n nb k s = k
        · rw [if_pos (by rw [e])]
          obtain ⟨u', u1, u2⟩ := hc81 S
          rw [u1]
          refine ih k S cur u' (by omega) (by omega) (by omega) h3 (fun q hq => ⟨(h4 q hq).1, fun v hv => ?_⟩) u2
          rw [(h4 q hq).2 v hv]
          unfold own
          constructor
          · rintro ((⟨w1, w2⟩ | ⟨w1, w2⟩) | ⟨i, i1, i2, i3, i4, i5⟩)
            · exact Or.inl (Or.inl ⟨⟨by omega, w1.2⟩, w2⟩)
            · by_cases z : q = k
              · subst z; exact Or.inl (Or.inr ⟨fun y => y.2.2 e, w2⟩)
              · exact Or.inl (Or.inr ⟨fun y => w1 ⟨by omega, y.2⟩, w2⟩)
            · exact Or.inr ⟨i, by omega, i2, i3, i4, i5⟩
          · rintro ((⟨w1, w2⟩ | ⟨w1, w2⟩) | ⟨i, i1, i2, i3, i4, i5⟩)
            · by_cases z : q = k
              · subst z; exact absurd e w1.2.2
              · exact Or.inl (Or.inl ⟨⟨by omega, w1.2⟩, w2⟩)
            · exact Or.inl (Or.inr ⟨fun y => w1 ⟨by omega, y.2⟩, w2⟩)
            · by_cases z : i = k
              · subst z; exact absurd (e.symm.trans i3) i4
              · exact Or.inr ⟨i, by omega, i2, i3, i4, i5⟩
        · have hlt : k < spr x n nb k s := by omega
          have hcn := (h4 _ hp).1
          rw [if_neg (fun z => e ((nI_eq (by omega) (by omega)).mp z)), ldx_n (by omega) (by decide), h3 _ hp, bnd_i]
          have hmin : (if nI (SP k) < nI (cur (spr x n nb k s)) then nI (SP k) else nI (cur (spr x n nb k s))) = nI (min (cur (spr x n nb k s)) (SP k)) := by
            by_cases z : SP k < cur (spr x n nb k s)
            · rw [if_pos (nI_lt z (by omega)), show min (cur (spr x n nb k s)) (SP k) = SP k by omega]
            · rw [if_neg (nI_nlt (by omega) (by omega)), show min (cur (spr x n nb k s)) (SP k) = cur (spr x n nb k s) by omega]
          rw [hmin, sti_n (by omega) (by decide), sti_n (by omega) (by decide), nI_1]
          obtain ⟨u', u1, u2⟩ := hc81 (upd (upd S (spr x n nb k s) (nI (min (cur (spr x n nb k s)) (SP k)))) k (nI (SP k + 1)))
          rw [u1]
          refine ih k _ (fun q => if q = k then SP k + 1 else if q = spr x n nb k s then min (cur (spr x n nb k s)) (SP k) else cur q) u' (by omega) (by omega) (by omega) (fun q hq => ?_) (fun q hq => ?_) u2
          · by_cases z : q = k
            · subst z; rw [upd_eq, if_pos rfl]
            · rw [upd_ne _ _ z, if_neg z]
              by_cases y : q = spr x n nb k s
              · subst y; rw [upd_eq, if_pos rfl]
              · rw [upd_ne _ _ y, if_neg y, h3 q hq]
          · show (if q = k then SP k + 1 else if q = spr x n nb k s then min (cur (spr x n nb k s)) (SP k) else cur q) ≤ b + 1 ∧ ∀ v, v ≤ b → ((if q = k then SP k + 1 else if q = spr x n nb k s then min (cur (spr x n nb k s)) (SP k) else cur q) ≤ v ↔ (own x n nb s G SP k q v ∨ ∃ i, k ≤ i ∧ i < G ∧ spr x n nb i s = q ∧ i ≠ q ∧ SP i ≤ v))
            by_cases z : q = k
            · subst z
              rw [if_pos rfl]
              refine ⟨by omega, fun v hv => ⟨fun w => Or.inl (Or.inl ⟨⟨Nat.le_refl _, by omega, e⟩, w⟩), ?_⟩⟩
              rintro ((⟨w1, w2⟩ | ⟨w1, w2⟩) | ⟨i, i1, i2, i3, i4, i5⟩)
              · exact w2
              · exact absurd ⟨Nat.le_refl _, by omega, e⟩ w1
              · have := sub_le (spr_sub x n nb i s)
                omega
            · rw [if_neg z]
              have hex : ∀ v, v ≤ b → (cur q ≤ v ∨ (q = spr x n nb k s ∧ SP k ≤ v) ↔ (own x n nb s G SP k q v ∨ ∃ i, k ≤ i ∧ i < G ∧ spr x n nb i s = q ∧ i ≠ q ∧ SP i ≤ v)) := by
                intro v hv
                rw [(h4 q hq).2 v hv]
                unfold own
                constructor
                · rintro (((⟨w1, w2⟩ | ⟨w1, w2⟩) | ⟨i, i1, i2, i3, i4, i5⟩) | ⟨w1, w2⟩)
                  · exact Or.inl (Or.inl ⟨⟨by omega, w1.2⟩, w2⟩)
                  · exact Or.inl (Or.inr ⟨fun y => w1 ⟨by omega, y.2⟩, w2⟩)
                  · exact Or.inr ⟨i, by omega, i2, i3, i4, i5⟩
                  · exact Or.inr ⟨k, Nat.le_refl _, by omega, w1.symm, fun y => z y.symm, w2⟩
                · rintro ((⟨w1, w2⟩ | ⟨w1, w2⟩) | ⟨i, i1, i2, i3, i4, i5⟩)
                  · exact Or.inl (Or.inl (Or.inl ⟨⟨by omega, w1.2⟩, w2⟩))
                  · exact Or.inl (Or.inl (Or.inr ⟨fun y => w1 ⟨by omega, y.2⟩, w2⟩))
                  · by_cases y : i = k
                    · subst y; exact Or.inr ⟨i3.symm, i5⟩
                    · exact Or.inl (Or.inr ⟨i, by omega, i2, i3, i4, i5⟩)
              by_cases y : q = spr x n nb k s
              · rw [if_pos y, ← y]
                have := (h4 q hq).1
                refine ⟨by omega, fun v hv => ?_⟩
                rw [← hex v hv]
                constructor
                · intro w
                  by_cases t : cur q ≤ v
                  · exact Or.inl t
                  · exact Or.inr ⟨y, by omega⟩
                · rintro (w | ⟨-, w⟩) <;> omega
              · rw [if_neg y]
                refine ⟨(h4 q hq).1, fun v hv => ?_⟩
                rw [← hex v hv]
                exact ⟨Or.inl, fun w => w.elim id (fun w => absurd w.1 y)⟩
/-! both -/
def jrel (n : Nat) (nb : Nat → Nat) (a b : Nat) (A : Nat → Int32) (SP : Nat → Nat) : Prop :=
  (∀ y, y < 1536 → (A y = 0 ∨ A y = 1) ∧ (A y = 1 → y % 256 < 2 ^ n ∧ y / 256 ≤ b)) ∧ (∀ q, q < 2 ^ n → SP q ≤ b + 1 ∧ ∀ v, v ≤ b → (SP q ≤ v ↔ ∃ j, j ≤ v ∧ A (256 * j + q) = 1)) ∧ (∀ q, q < 2 ^ n → SP q ≤ b → sub (2 ^ a) q ∧ sub q (rch n nb (2 ^ a)))
theorem jc_of {x : Int32} (hx : x = 0 ∨ x = 1) {n : Nat} {nb : Nat → Nat} (h : iN n nb) {a b s : Nat} (ha : a < n) {SP cur : Nat → Nat} (hsup : ∀ q, q < 2 ^ n → SP q ≤ b → sub (2 ^ a) q ∧ sub q (rch n nb (2 ^ a))) (hc : jcur x n nb b s (rch n nb (2 ^ a)) SP (2 ^ a) cur) {q v : Nat} (hq : q < 2 ^ n) (hv : v ≤ b) : cur q ≤ v ↔ ((∃ k, k < 2 ^ n ∧ spr x n nb k s = q ∧ SP k ≤ v) ∨ SP q + 1 ≤ v) := by
  have hg := rch_lt h (p2_lt ha)
  have hst := rch_stp h (p2_lt ha)
  rw [(hc q hq).2 v hv]
  constructor
  · rintro ((⟨w1, w2⟩ | ⟨w1, w2⟩) | ⟨i, i1, i2, i3, i4, i5⟩)
    · exact Or.inr w2
    · left
      refine ⟨q, hq, ?_, w2⟩
      obtain ⟨s1, s2⟩ := hsup q hq (by omega)
      have l1 := sub_le s1
      have l2 := sub_le s2
      by_cases c : q = rch n nb (2 ^ a)
      · rw [c]; exact spr_end hx h hst
      · exact Classical.byContradiction (fun z => w1 ⟨l1, by omega, z⟩)
    · exact Or.inl ⟨i, by omega, i3, i5⟩
  · rintro (⟨k, k1, k2, k3⟩ | w)
    · obtain ⟨s1, s2⟩ := hsup k k1 (by omega)
      have l1 := sub_le s1
      have l2 := sub_le s2
      by_cases c : k = q
      · subst c
        exact Or.inl (Or.inr ⟨fun z => z.2.2 k2, k3⟩)
      · right
        refine ⟨k, l1, ?_, k2, c, k3⟩
        have : k ≠ rch n nb (2 ^ a) := fun z => by
          rw [z, spr_end hx h hst] at k2
          exact c (z.trans k2)
        omega
    · by_cases c : 2 ^ a ≤ q ∧ q < rch n nb (2 ^ a) ∧ spr x n nb q s ≠ q
      · exact Or.inl (Or.inl ⟨c, w⟩)
      · exact Or.inl (Or.inr ⟨c, by omega⟩)
theorem j_next {x : Int32} (hx : x = 0 ∨ x = 1) {n : Nat} {nb : Nat → Nat} (h : iN n nb) {a b s : Nat} (ha : a < n) (hb : b ≤ 5) {A A' T : Nat → Int32} {SP cur : Nat → Nat} (hr : jrel n nb a b A SP) (hc : jcur x n nb b s (rch n nb (2 ^ a)) SP (2 ^ a) cur) (hT : isB T (jst x n nb b s A 1536)) (hA : ∀ y, y < 1536 → A' y = T y) :
    jrel n nb a b A' cur ∧ (junt x n nb b s (rch n nb (2 ^ a)) SP (2 ^ a) ↔ ∃ y, y < 1536 ∧ A' y = 1 ∧ y % 256 ≠ rch n nb (2 ^ a)) := by
  have hn := h.1
  have h8 := pow8 hn
  have hg := rch_lt h (p2_lt ha)
  have hst := rch_stp h (p2_lt ha)
  obtain ⟨r1, r2, r3⟩ := hr
  have hA1 : ∀ y, y < 1536 → (A' y = 1 ↔ jst x n nb b s A 1536 y) := fun y hy => by rw [hA y hy]; exact (hT y hy).2
  have hR : jrel n nb a b A' cur := by
    refine ⟨fun y hy => ⟨by rw [hA y hy]; exact (hT y hy).1, fun w => ?_⟩, fun q hq => ⟨(hc q hq).1, fun v hv => ?_⟩, fun q hq w => ?_⟩
    · obtain ⟨k, k1, k2, k3⟩ := (hA1 y hy).mp w
      obtain ⟨l1, l2⟩ := (r1 k k1).2 k2
      rcases k3 with rfl | ⟨k3, rfl⟩
      · have := spr_lt (h := x) (nb := nb) (s := s) l1
        have e1 : (256 * (k / 256) + spr x n nb (k % 256) s) % 256 = spr x n nb (k % 256) s := by omega
        have e2 : (256 * (k / 256) + spr x n nb (k % 256) s) / 256 = k / 256 := by omega
        rw [e1, e2]; exact ⟨this, l2⟩
      · have e1 : (k + 256) % 256 = k % 256 := by omega
        have e2 : (k + 256) / 256 = k / 256 + 1 := by omega
        rw [e1, e2]; exact ⟨l1, by omega⟩
    · rw [jc_of hx h ha r3 hc hq hv]
      constructor
      · rintro (⟨k, k1, k2, k3⟩ | w)
        · obtain ⟨j, j1, j2⟩ := ((r2 k k1).2 v hv).mp k3
          refine ⟨j, j1, (hA1 _ (by omega)).mpr ⟨256 * j + k, by omega, j2, Or.inl ?_⟩⟩
          rw [show (256 * j + k) / 256 = j by omega, show (256 * j + k) % 256 = k by omega, k2]
        · obtain ⟨j, j1, j2⟩ := ((r2 q hq).2 (v - 1) (by omega)).mp (by omega)
          refine ⟨j + 1, by omega, (hA1 _ (by omega)).mpr ⟨256 * j + q, by omega, j2, Or.inr ⟨by omega, by omega⟩⟩⟩
      · rintro ⟨j, j1, j2⟩
        obtain ⟨k, k1, k2, k3⟩ := (hA1 _ (by omega)).mp j2
        obtain ⟨l1, l2⟩ := (r1 k k1).2 k2
        rcases k3 with k3 | ⟨k3, k4⟩
        · have := spr_lt (h := x) (nb := nb) (s := s) l1
          left
          refine ⟨k % 256, l1, by omega, ((r2 _ l1).2 v hv).mpr ⟨j, j1, ?_⟩⟩
          rw [show 256 * j + k % 256 = k by omega]; exact k2
        · right
          have := ((r2 q hq).2 (j - 1) (by omega)).mpr ⟨j - 1, Nat.le_refl _, by rw [show 256 * (j - 1) + q = k by omega]; exact k2⟩
          omega
    · rcases (jc_of hx h ha r3 hc hq (Nat.le_refl b)).mp w with ⟨k, k1, k2, k3⟩ | w
      · obtain ⟨s1, s2⟩ := r3 k k1 k3
        rw [← k2]
        exact ⟨sub_tr s1 (spr_sub _ _ _ _ _), spr_in hx h hst s2⟩
      · exact r3 q hq (by omega)
  refine ⟨hR, ?_⟩
  obtain ⟨q1, q2, q3⟩ := hR
  constructor
  · rintro ⟨k, k1, k2, k3, k4⟩
    rcases k4 with k4 | k4
    · have hp := spr_lt (h := x) (nb := nb) (s := s) (show k < 2 ^ n by omega)
      have := (jc_of hx h ha r3 hc hp (Nat.le_refl b)).mpr (Or.inl ⟨k, by omega, rfl, k3⟩)
      obtain ⟨j, j1, j2⟩ := ((q2 _ hp).2 b (Nat.le_refl b)).mp this
      refine ⟨_, by omega, j2, ?_⟩
      rw [show (256 * j + spr x n nb k s) % 256 = spr x n nb k s by omega]; exact k4
    · have hk : k < 2 ^ n := by omega
      have := (jc_of hx h ha r3 hc hk (Nat.le_refl b)).mpr (Or.inr (by omega))
      obtain ⟨j, j1, j2⟩ := ((q2 _ hk).2 b (Nat.le_refl b)).mp this
      exact ⟨_, by omega, j2, by omega⟩
  · rintro ⟨y, y1, y2, y3⟩
    obtain ⟨l1, l2⟩ := (q1 y y1).2 y2
    have hcq := ((q2 _ l1).2 b (Nat.le_refl b)).mpr ⟨y / 256, l2, by rw [show 256 * (y / 256) + y % 256 = y by omega]; exact y2⟩
    rcases (jc_of hx h ha r3 hc l1 (Nat.le_refl b)).mp hcq with ⟨k, k1, k2, k3⟩ | w
    · obtain ⟨s1, s2⟩ := r3 k k1 k3
      have m1 := sub_le s1
      have m2 := sub_le s2
      have : k ≠ rch n nb (2 ^ a) := fun z => by
        rw [z, spr_end hx h hst] at k2
        exact y3 k2.symm
      exact ⟨k, m1, by omega, k3, Or.inl (by rw [k2]; exact y3)⟩
    · obtain ⟨s1, s2⟩ := r3 _ l1 (by omega)
      have m1 := sub_le s1
      have m2 := sub_le s2
      exact ⟨y % 256, m1, by omega, by omega, Or.inr (by omega)⟩
theorem j_rounds {n : Nat} {nb : Nat → Nat} (h : iN n nb) {F F' : Nat → Int32} (hF : ∀ i, i < 8 → F i = nI (nb i)) {x : Int32} (hx : x = 0 ∨ x = 1) {Q : Nat → Int32} (hQ : ∀ t, t < 2 ^ n → Q t = nI (hea x n nb t)) {k : Nat} (hk0 : 0 < k) (hk : k ≤ 20) {T_rounds M_round : Nat → Int32} (hh : ∀ i, i < k → M_round i = T_rounds i ∧ (T_rounds i = -1 ∨ ∃ c : Nat, c < 2 ^ n ∧ T_rounds i = nI c)) {a b : Nat} (ha : a < n) (hb : b ≤ 5) :
    ∀ (m m' r : Nat) (S A T : Nat → Int32) (SP : Nat → Nat), r ≤ 60 → 61 ≤ r + m → 61 ≤ r + m' → (∀ q, q < 2 ^ n → S q = nI (SP q)) → jrel n nb a b A SP → (∀ y, y < 1536 → T y = 0) →
    ∃ (v : Int32) (S' A' T' : Nat → Int32), fX3_worstRounds_c44 (nI n) F' (nI k) T_rounds Q m S (nI b) (nI (2 ^ a)) (nI (rch n nb (2 ^ a))) (nI r) = some (v, S') ∧ fX7_jammed_c173 (nI n) (nI k) F M_round (fX7_jammed_c94 (nI n) (nI k) F M_round m') FU 0 A T x (nI b) (nI (rch n nb (2 ^ a))) (nI r) 0 = some (v, 0, A', T') := by
  have hn := h.1
  have h8 := pow8 hn
  have h2a := p2_lt ha
  have hg := rch_lt h h2a
  have hge : 2 ^ a ≤ rch n nb (2 ^ a) := sub_le (rch_sub n nb (2 ^ a))
  have h1a : 0 < 2 ^ a := Nat.two_pow_pos a
  intro m
  induction m with
  | zero => intro m' r S A T SP h1 h2; omega
  | succ m ih =>
    intro m' r S A T SP h1 h2 h2' h3 h4 h5
    obtain ⟨M, rfl⟩ : ∃ M, m' = M + 1 := ⟨m' - 1, by omega⟩
    obtain ⟨s, hs, s1, s2⟩ := over_at hn hk0 hk hh (r := r) (by omega)
    obtain ⟨T1, t1, t2⟩ := jm_step h hF hx M_round (fX7_jammed_c94 (nI n) (nI k) F M_round (M + 1)) (nI k) (nI r) (s := s) (b := b) (nI (rch n nb (2 ^ a))) hb s2 (may := A) (fun y hy => ⟨(h4.1 y hy).1, fun w => ((h4.1 y hy).2 w).1⟩) FU 0 T (by decide) (by decide) (fun y hy => by
      refine ⟨Or.inl (h5 y hy), fun w => ?_, fun w => ?_⟩
      · rw [h5 y hy] at w; exact absurd w (by decide)
      · obtain ⟨i, i1, -⟩ := w; omega)
    obtain ⟨A1, a1, a2⟩ := jm_copy (nI n) (nI k) F M_round (fX7_jammed_c94 (nI n) (nI k) F M_round (M + 1)) x (nI b) (nI (rch n nb (2 ^ a))) (nI r) (T := T1) (fun y hy => (t2 y hy).1) FU 0 A (by decide) (by decide) (fun y hy => by omega)
    rw [show nI 0 = (0 : Int32) from rfl] at t1 a1
    rw [t1, a1, nI_1, fX7_jammed_c94, fX3_worstRounds_c44]
    by_cases q : r = 60
    · subst q
      rw [if_pos (show (60 : Int32) ≤ nI 60 by decide), if_pos (show (60 : Int32) < nI (60 + 1) by decide)]
      exact ⟨_, _, _, _, rfl, rfl⟩
    · rw [if_neg (show ¬ (60 : Int32) ≤ nI r from nI_ge (show r < 60 by omega) (by decide)), if_neg (show ¬ (60 : Int32) < nI (r + 1) from nI_nlt (a := 60) (show r + 1 ≤ 60 by omega) (by decide))]
      obtain ⟨S', cur, u, u1, u2, u3, u4⟩ := jx_down hn hQ (b := b) (s := s) (G := rch n nb (2 ^ a)) (f := 2 ^ a) hb hg h1a (SP := SP) (fun q hq => (h4.2.1 q hq).1) FU (rch n nb (2 ^ a)) S SP 0 hge (Nat.le_refl _) (by unfold FU; omega) h3 (fun q hq => ⟨(h4.2.1 q hq).1, fun v hv => by
        unfold own
        constructor
        · intro w
          exact Or.inl (Or.inr ⟨by omega, w⟩)
        · rintro ((⟨w1, w2⟩ | ⟨w1, w2⟩) | ⟨i, i1, i2, -⟩)
          · omega
          · exact w2
          · omega⟩) (Or.inr ⟨rfl, fun ⟨i, i1, i2, _⟩ => by omega⟩)
      have q1 : r + 1 ≤ 60 := by omega
      have q2 : 61 ≤ r + 1 + m := by omega
      have q3 : 61 ≤ r + 1 + M := by omega
      obtain ⟨n1, n2⟩ := j_next hx h ha hb h4 u3 t2 a2
      unfold fX1_allPosts fX3_leavesSomeUntold
      rw [bd1_i, all_of n (by omega), s1, bd1_i, u1, bd2_i, nI_1]
      obtain ⟨T2, d1, d2⟩ := jm_done (nI n) (nI k) F M_round (fX7_jammed_c94 (nI n) (nI k) F M_round M) x (nI b) (nI (r + 1)) (g := rch n nb (2 ^ a)) (by omega) (A := A1) (fun y hy => (n1.1 y hy).1) FU 0 T1 1 (by decide) (by decide) (fun y hy => by omega) (Or.inl ⟨rfl, fun y hy => by omega⟩)
      rw [show nI 0 = (0 : Int32) from rfl] at d2
      rcases u4 with ⟨rfl, w⟩ | ⟨rfl, w⟩
      · obtain ⟨y, y1, y2, y3⟩ := n2.mp w
        rcases d2 with ⟨d2, -⟩ | ⟨-, d3⟩
        · exact absurd (d2 y y1 y2) y3
        · rw [if_neg (by decide), d3]
          exact ih M (r + 1) S' A1 T2 cur q1 q2 q3 u2 n1 d1
      · rcases d2 with ⟨-, d3⟩ | ⟨d2, -⟩
        · rw [if_pos rfl, d3]
          exact ⟨_, _, _, _, rfl, rfl⟩
        · exact absurd (n2.mpr d2) w
theorem st_jammed {B_latestFinding : Int32} {B_latestFault : Int32} {S_lanes : Nat → Int32} {S_sizes : Nat → Int32} {S_rows : Nat → Nat → Int32} {N_posts : Int32} {N_neighbours : Nat → Int32} {R_length : Int32} {R_tape : Nat → Int32} {T_size : Int32} {T_rounds : Nat → Int32} {K_length : Int32} {K_begun : Nat → Int32} {M_status : Int32} {M_posts : Int32} {M_rounds : Int32} {M_taped : Int32} {M_latest : Int32} {M_traced : Int32} {M_lane : Nat → Int32} {M_many : Nat → Int32} {M_item : Nat → Int32} {M_beside : Nat → Int32} {M_round : Nat → Int32} {M_tape : Nat → Int32} {M_trace : Nat → Int32} (hI : Inv B_latestFinding B_latestFault S_lanes S_sizes S_rows N_posts N_neighbours R_length R_tape T_size T_rounds K_length K_begun M_status M_posts M_rounds M_taped M_latest M_traced M_lane M_many M_item M_beside M_round M_tape M_trace) (p0 : Int32) (p1 : Int32) (p2 : Int32) (Q_heard : Nat → Int32) (Q_spent : Nat → Int32) (M_thrown : Int32) (M_may : Nat → Int32) (M_then : Nat → Int32) : ∃ (rr : Int32) (Q_heard_z : Nat → Int32) (Q_spent_z : Nat → Int32) (M_thrown_z : Int32) (M_may_z : Nat → Int32) (M_then_z : Nat → Int32), fX6_jammed N_posts N_neighbours T_size T_rounds Q_heard Q_spent p0 p1 p2 = some (rr, Q_heard_z, Q_spent_z) ∧ fX7_jammed M_thrown M_posts M_rounds M_beside M_round M_may M_then p0 p1 p2 = some (rr, M_thrown_z, M_may_z, M_then_z) ∧ Inv B_latestFinding B_latestFault S_lanes S_sizes S_rows N_posts N_neighbours R_length R_tape T_size T_rounds K_length K_begun M_status M_posts M_rounds M_taped M_latest M_traced M_lane M_many M_item M_beside M_round M_tape M_trace := by
  obtain ⟨n, nb, ⟨hN, eN, eM, h4⟩, hS, hT, ⟨k, hk, eT, eR, hh⟩, hTr, e1, e2⟩ := id hI
  have hn := hN.1
  have hFX : ∀ i, i < 8 → N_neighbours i = nI (nb i) := fun i hi => (h4 i hi).1
  have hFM : ∀ i, i < 8 → M_beside i = nI (nb i) := fun i hi => (h4 i hi).2
  rcases hear_cases p0 with ⟨hx, ha1, ha2⟩ | ⟨ha1, ha2⟩
  case inr =>
    refine ⟨-1000001, Q_heard, Q_spent, 0, M_may, M_then, ?_, ?_, hI⟩
    · unfold fX6_jammed
      rw [ha1, bd1_i, if_pos rfl]
    · unfold fX7_jammed
      rw [ha2, bd1_i, if_pos rfl]
  rcases post_cases p1 hn with ⟨a, ha, rfl, hb1, hb2⟩ | ⟨hb1, hb2⟩
  case inr =>
    refine ⟨-1000001, Q_heard, Q_spent, 0, M_may, M_then, ?_, ?_, hI⟩
    · unfold fX6_jammed
      rw [ha1, bd1_i, if_neg (by decide), eN, hb1, bd1_i, if_pos rfl]
    · unfold fX7_jammed
      rw [ha2, bd1_i, if_neg (by decide), eM, hb2, bd1_i, if_pos rfl]
  rcases rng_cases p2 6 (by decide) with ⟨b, hb, rfl⟩ | hp
  case inr =>
    refine ⟨-1000001, Q_heard, Q_spent, 0, M_may, M_then, ?_, ?_, hI⟩
    · unfold fX6_jammed
      rw [ha1, bd1_i, if_neg (by decide), eN, hb1, bd1_i, if_neg (by decide)]
      by_cases c0 : p2 < 0
      · rw [if_pos c0]
      · have c8 := hp.resolve_left c0
        rw [if_neg c0, if_neg]
        intro w
        rw [i32_le, show (5 : Int32).toInt = 5 from rfl] at w
        rw [i32_le, nI_toInt (by decide)] at c8
        omega
    · unfold fX7_jammed
      have hin : fX7_in p2.toInt64 0 5 = some 0 := in_k_f (k := 6) hp (by decide)
      rw [ha2, bd1_i, if_neg (by decide), eM, hb2, bd1_i, if_neg (by decide), hin, bd1_i, if_pos rfl]
  have hin : fX7_in (nI b).toInt64 0 5 = some 1 := by
    rw [z64, show (5 : Int64) = (nI 5).toInt64 from rfl, in_t (nI_pos (by omega)) (nI_nlt (by omega) (by omega))]
  have hle : nI b ≤ (5 : Int32) := nI_le (show b ≤ 5 by omega) (by decide)
  by_cases hk0 : k = 0
  · subst hk0
    refine ⟨-1000002, Q_heard, Q_spent, 0, M_may, M_then, ?_, ?_, hI⟩
    · unfold fX6_jammed fX5_size
      rw [ha1, bd1_i, if_neg (by decide), eN, hb1, bd1_i, if_neg (by decide), if_neg (nI_pos (by omega)), if_pos hle, bd1_i, eT, if_pos nI_0]
    · unfold fX7_jammed
      rw [ha2, bd1_i, if_neg (by decide), eM, hb2, bd1_i, if_neg (by decide), hin, bd1_i, if_neg (by decide), eR, if_pos nI_0]
  have hkz : ¬ nI k = 0 := nI_ne0 (by omega) (by omega)
  have h8 := pow8 hn
  have h2a := p2_lt ha
  have hg := rch_lt hN h2a
  obtain ⟨Q', l1, l2⟩ := listen_of hN hFX hx Q_heard
  obtain ⟨A1, a1, a2⟩ := jm_init (nI n) (nI k) M_beside M_round M_then p0 (nI b) (nI (rch n nb (2 ^ a))) (a := a) (by omega) FU 0 M_may (by decide) (by decide) (fun y hy => by omega)
  rw [show nI 0 = (0 : Int32) from rfl] at a1
  have hX : fX6_jammed N_posts N_neighbours T_size T_rounds Q_heard Q_spent p0 (nI a) (nI b) = bd2 (fX3_worstRounds (nI n) N_neighbours (nI k) T_rounds Q' Q_spent (nI a) (nI b)) (fun r14 Q_spent_15 => some (r14, Q', Q_spent_15)) := by
    unfold fX6_jammed fX5_size
    rw [ha1, bd1_i, if_neg (by decide), eN, hb1, bd1_i, if_neg (by decide), if_neg (nI_pos (by omega)), if_pos hle, bd1_i, eT, if_neg hkz, l1, bd1_i]
  have hM : fX7_jammed M_thrown M_posts M_rounds M_beside M_round M_may M_then p0 (nI a) (nI b) = fX7_jammed_c94 (nI n) (nI k) M_beside M_round FU 0 A1 M_then p0 (nI b) (nI (rch n nb (2 ^ a))) 0 := by
    unfold fX7_jammed
    rw [ha2, bd1_i, if_neg (by decide), eM, hb2, bd1_i, if_neg (by decide), hin, bd1_i, if_neg (by decide), eR, if_neg hkz, sh1 a (by omega), mreach_of hN hFM h2a, bd1_i, a1]
  rw [hX, hM]
  have hfu : FU = 99999 + 1 := by decide
  have hA01 : ∀ y, y < 1536 → A1 y = 0 ∨ A1 y = 1 := fun y hy => by
    rw [a2 y hy]
    split
    · exact Or.inr rfl
    · exact Or.inl rfl
  obtain ⟨T1, t1, t2⟩ := jm_done (nI n) (nI k) M_beside M_round (fX7_jammed_c94 (nI n) (nI k) M_beside M_round 99999) p0 (nI b) (nI 0) (g := rch n nb (2 ^ a)) (by omega) (A := A1) hA01 FU 0 M_then 1 (by decide) (by decide) (fun y hy => by omega) (Or.inl ⟨rfl, fun y hy => by omega⟩)
  rw [show nI 0 = (0 : Int32) from rfl] at t2
  rw [show fX7_jammed_c94 (nI n) (nI k) M_beside M_round FU 0 A1 M_then p0 (nI b) (nI (rch n nb (2 ^ a))) 0 = fX7_jammed_c107 (nI n) (nI k) M_beside M_round (fX7_jammed_c94 (nI n) (nI k) M_beside M_round 99999) FU 0 A1 M_then p0 (nI b) (nI (rch n nb (2 ^ a))) 0 1 0 by
    rw [hfu, fX7_jammed_c94, if_neg (by decide)]; rfl]
  unfold fX3_worstRounds
  rw [bnd_i, sh1 a (by omega), xreach_of hN hFX h2a, bd1_i]
  by_cases c : 2 ^ a = rch n nb (2 ^ a)
  · rw [if_pos (by rw [← c]), bd2_i]
    rcases t2 with ⟨-, t3⟩ | ⟨⟨y, y1, y2, y3⟩, -⟩
    · exact ⟨0, Q', Q_spent, 0, A1, T1, rfl, t3, hI⟩
    · rw [a2 y y1] at y2
      by_cases z : y = 2 ^ a
      · exact absurd (by rw [z, Nat.mod_eq_of_lt (by omega)]; exact c) y3
      · rw [if_neg z] at y2; exact absurd y2 (by decide)
  · rw [if_neg (fun w => c ((nI_eq (by omega) (by omega)).mp w)), bnd_i, sti_n (by omega) (by decide)]
    rcases t2 with ⟨t2, -⟩ | ⟨-, t3⟩
    · exact absurd (by have := t2 (2 ^ a) (by omega) (by rw [a2 _ (by omega), if_pos rfl]); rw [Nat.mod_eq_of_lt (by omega)] at this; exact this) c
    · have hrel : jrel n nb a b A1 (fun q => if q = 2 ^ a then 0 else b + 1) := by
        refine ⟨fun y hy => ⟨hA01 y hy, fun w => ?_⟩, fun q hq => ?_, fun q hq => ?_⟩
        · rw [a2 y hy] at w
          by_cases z : y = 2 ^ a
          · subst z; exact ⟨by rw [Nat.mod_eq_of_lt (by omega)]; exact h2a, by omega⟩
          · rw [if_neg z] at w; exact absurd w (by decide)
        · show (if q = 2 ^ a then 0 else b + 1) ≤ b + 1 ∧ ∀ v, v ≤ b → ((if q = 2 ^ a then 0 else b + 1) ≤ v ↔ ∃ j, j ≤ v ∧ A1 (256 * j + q) = 1)
          by_cases z : q = 2 ^ a
          · rw [if_pos z]
            refine ⟨by omega, fun v hv => ⟨fun _ => ⟨0, by omega, ?_⟩, fun _ => by omega⟩⟩
            rw [a2 _ (by omega), if_pos (by omega)]
          · rw [if_neg z]
            refine ⟨by omega, fun v hv => ⟨fun w => by omega, ?_⟩⟩
            rintro ⟨j, j1, j2⟩
            rw [a2 _ (by omega)] at j2
            by_cases y : 256 * j + q = 2 ^ a
            · omega
            · rw [if_neg y] at j2; exact absurd j2 (by decide)
        · show (if q = 2 ^ a then 0 else b + 1) ≤ b → sub (2 ^ a) q ∧ sub q (rch n nb (2 ^ a))
          by_cases z : q = 2 ^ a
          · subst z; exact fun _ => ⟨sub_rf _, rch_sub _ _ _⟩
          · rw [if_neg z]; intro w; omega
      obtain ⟨v, S', A', T', v1, v2⟩ := j_rounds hN (F := M_beside) (F' := N_neighbours) hFM hx l2 (k := k) (by omega) hk hh (a := a) (b := b) ha (by omega) FU 99999 0 (upd (fillI 256 Q_spent (nI b + 1)) (2 ^ a) 0) A1 T1 (fun q => if q = 2 ^ a then 0 else b + 1) (by decide) (by decide) (by decide) (fun q hq => by
        by_cases z : q = 2 ^ a
        · subst z; rw [upd_eq, if_pos rfl]; rfl
        · rw [upd_ne _ _ z, if_neg z]
          unfold fillI
          rw [if_pos (by omega), nI_1]) hrel t1
      rw [show nI 0 = (0 : Int32) from rfl] at v1 v2
      refine ⟨v, Q', S', 0, A', T', ?_, ?_, hI⟩
      · rw [v1, bd2_i]
      · rw [t3]; exact v2
